/-! ===== instructions, by windows of the code ===== -/
section DW
/-- a reader answers -/
def dok {α : Type} (c : ByteArray) (r : Decoder α) (p : Nat) (a : α) (q : Nat) : Prop := r c p = .ok (a, q)
theorem dk_pure {α : Type} {c : ByteArray} {a : α} {p : Nat} : dok c (pure a) p a p := rfl
theorem dk_bind {α β : Type} {c : ByteArray} {r : Decoder α} {f : α → Decoder β} {p p1 q : Nat} {a : α} {b : β} (h : dok c r p a p1) (h2 : dok c (f a) p1 b q) : dok c (r >>= f) p b q := by
  show (do let (a, p1) ← r c p; f a c p1 : Except DecodeError (β × Nat)) = .ok (b, q)
  rw [show r c p = .ok (a, p1) from h]
  exact h2
theorem dk_map {α β : Type} {c : ByteArray} {r : Decoder α} {g : α → β} {p q : Nat} {a : α} (h : dok c r p a q) : dok c (g <$> r) p (g a) q := dk_bind (f := fun a => pure (g a)) h dk_pure
theorem dk_u1 {c : ByteArray} {p : Nat} {b : UInt8} (h : c.data[p]? = some b) : dok c Reader.u1 p b.toNat (p + 1) := by
  have hp : p < c.size := (Array.getElem?_eq_some_iff.mp h).1
  have e : (Reader.u1 : Decoder Nat) c p = (if h : p < c.size then (do set (p + 1); Pure.pure c[p].toNat : Decoder Nat) else throw (HasTruncated.truncated p)) c p := rfl
  have h3 : c[p] = b := (Array.getElem?_eq_some_iff.mp h).2
  rw [dok, e, dif_pos hp, h3]
  rfl
theorem dk_s1 {c : ByteArray} {p : Nat} {b : UInt8} (h : c.data[p]? = some b) : dok c (Reader.s1 : Decoder Int) p (Reader.signed 8 b.toNat) (p + 1) := dk_map (dk_u1 h)
theorem dk_u2 {c : ByteArray} {p : Nat} {b d : UInt8} (h : c.data[p]? = some b) (h2 : c.data[p + 1]? = some d) : dok c (Reader.u2 : Decoder Nat) p (b.toNat * 256 + d.toNat) (p + 1 + 1) := dk_bind (dk_u1 h) (dk_bind (dk_u1 h2) dk_pure)
theorem dk_s2 {c : ByteArray} {p : Nat} {b d : UInt8} (h : c.data[p]? = some b) (h2 : c.data[p + 1]? = some d) : dok c (Reader.s2 : Decoder Int) p (Reader.signed 16 (b.toNat * 256 + d.toNat)) (p + 1 + 1) := dk_map (dk_u2 h h2)
def okOps : List Nat := [1, 2, 3, 4, 5, 6, 7, 8, 9, 10, 16, 17, 18, 19, 20, 21, 22, 25, 26, 27, 28, 29, 30, 31, 32, 33, 42, 43, 44, 45, 46, 47, 51, 54, 55, 58, 59, 60, 61, 62, 63, 64, 65, 66, 76, 77, 78, 80, 84, 87, 89, 90, 96, 97, 100, 101, 104, 105, 108, 109, 112, 113, 116, 120, 121, 122, 124, 125, 126, 127, 128, 129, 131, 132, 133, 136, 145, 146, 148, 153, 154, 155, 156, 157, 158, 159, 160, 161, 162, 163, 164, 167, 172, 173, 176, 177, 178, 180, 181, 182, 183, 184, 187, 190, 191, 192, 199]
/-- a quick decoder: the opcode, then the two bytes behind it -/
def fdT (n : Nat) (x y : Option UInt8) : Option (Instr × Nat) := (if n < 97 then (if n < 42 then (if n < 19 then (if n < 7 then (if n < 4 then (if n < 2 then (if n = 1 then some (.aconst_null, 1) else none) else (if n < 3 then (if n = 2 then some (.iconst (-1), 1) else none) else (if n = 3 then some (.iconst 0, 1) else none))) else (if n < 5 then (if n = 4 then some (.iconst 1, 1) else none) else (if n < 6 then (if n = 5 then some (.iconst 2, 1) else none) else (if n = 6 then some (.iconst 3, 1) else none)))) else (if n < 10 then (if n < 8 then (if n = 7 then some (.iconst 4, 1) else none) else (if n < 9 then (if n = 8 then some (.iconst 5, 1) else none) else (if n = 9 then some (.lconst 0, 1) else none))) else (if n < 17 then (if n < 16 then (if n = 10 then some (.lconst 1, 1) else none) else (if n = 16 then (match x with | some b => some (.bipush (Reader.signed 8 b.toNat), 2) | none => none) else none)) else (if n < 18 then (if n = 17 then (match x, y with | some b, some d => some (.sipush (Reader.signed 16 (b.toNat * 256 + d.toNat)), 3) | _, _ => none) else none) else (if n = 18 then (match x with | some b => some (.ldc b.toNat, 2) | none => none) else none))))) else (if n < 27 then (if n < 22 then (if n < 20 then (if n = 19 then (match x, y with | some b, some d => some (.ldc_w (b.toNat * 256 + d.toNat), 3) | _, _ => none) else none) else (if n < 21 then (if n = 20 then (match x, y with | some b, some d => some (.ldc2_w (b.toNat * 256 + d.toNat), 3) | _, _ => none) else none) else (if n = 21 then (match x with | some b => some (.iload b.toNat, 2) | none => none) else none))) else (if n < 25 then (if n = 22 then (match x with | some b => some (.lload b.toNat, 2) | none => none) else none) else (if n < 26 then (if n = 25 then (match x with | some b => some (.aload b.toNat, 2) | none => none) else none) else (if n = 26 then some (.iload_n 0, 1) else none)))) else (if n < 30 then (if n < 28 then (if n = 27 then some (.iload_n 1, 1) else none) else (if n < 29 then (if n = 28 then some (.iload_n 2, 1) else none) else (if n = 29 then some (.iload_n 3, 1) else none))) else (if n < 32 then (if n < 31 then (if n = 30 then some (.lload_n 0, 1) else none) else (if n = 31 then some (.lload_n 1, 1) else none)) else (if n < 33 then (if n = 32 then some (.lload_n 2, 1) else none) else (if n = 33 then some (.lload_n 3, 1) else none)))))) else (if n < 62 then (if n < 51 then (if n < 45 then (if n < 43 then (if n = 42 then some (.aload_n 0, 1) else none) else (if n < 44 then (if n = 43 then some (.aload_n 1, 1) else none) else (if n = 44 then some (.aload_n 2, 1) else none))) else (if n < 46 then (if n = 45 then some (.aload_n 3, 1) else none) else (if n < 47 then (if n = 46 then some (.iaload, 1) else none) else (if n = 47 then some (.laload, 1) else none)))) else (if n < 58 then (if n < 54 then (if n = 51 then some (.baload, 1) else none) else (if n < 55 then (if n = 54 then (match x with | some b => some (.istore b.toNat, 2) | none => none) else none) else (if n = 55 then (match x with | some b => some (.lstore b.toNat, 2) | none => none) else none))) else (if n < 60 then (if n < 59 then (if n = 58 then (match x with | some b => some (.astore b.toNat, 2) | none => none) else none) else (if n = 59 then some (.istore_n 0, 1) else none)) else (if n < 61 then (if n = 60 then some (.istore_n 1, 1) else none) else (if n = 61 then some (.istore_n 2, 1) else none))))) else (if n < 78 then (if n < 65 then (if n < 63 then (if n = 62 then some (.istore_n 3, 1) else none) else (if n < 64 then (if n = 63 then some (.lstore_n 0, 1) else none) else (if n = 64 then some (.lstore_n 1, 1) else none))) else (if n < 76 then (if n < 66 then (if n = 65 then some (.lstore_n 2, 1) else none) else (if n = 66 then some (.lstore_n 3, 1) else none)) else (if n < 77 then (if n = 76 then some (.astore_n 1, 1) else none) else (if n = 77 then some (.astore_n 2, 1) else none)))) else (if n < 87 then (if n < 80 then (if n = 78 then some (.astore_n 3, 1) else none) else (if n < 84 then (if n = 80 then some (.lastore, 1) else none) else (if n = 84 then some (.bastore, 1) else none))) else (if n < 90 then (if n < 89 then (if n = 87 then some (.pop, 1) else none) else (if n = 89 then some (.dup, 1) else none)) else (if n < 96 then (if n = 90 then some (.dup_x1, 1) else none) else (if n = 96 then some (.iadd, 1) else none))))))) else (if n < 154 then (if n < 124 then (if n < 109 then (if n < 104 then (if n < 100 then (if n = 97 then some (.ladd, 1) else none) else (if n < 101 then (if n = 100 then some (.isub, 1) else none) else (if n = 101 then some (.lsub, 1) else none))) else (if n < 105 then (if n = 104 then some (.imul, 1) else none) else (if n < 108 then (if n = 105 then some (.lmul, 1) else none) else (if n = 108 then some (.idiv, 1) else none)))) else (if n < 116 then (if n < 112 then (if n = 109 then some (.ldiv, 1) else none) else (if n < 113 then (if n = 112 then some (.irem, 1) else none) else (if n = 113 then some (.lrem, 1) else none))) else (if n < 121 then (if n < 120 then (if n = 116 then some (.ineg, 1) else none) else (if n = 120 then some (.ishl, 1) else none)) else (if n < 122 then (if n = 121 then some (.lshl, 1) else none) else (if n = 122 then some (.ishr, 1) else none))))) else (if n < 132 then (if n < 127 then (if n < 125 then (if n = 124 then some (.iushr, 1) else none) else (if n < 126 then (if n = 125 then some (.lushr, 1) else none) else (if n = 126 then some (.iand, 1) else none))) else (if n < 129 then (if n < 128 then (if n = 127 then some (.land, 1) else none) else (if n = 128 then some (.ior, 1) else none)) else (if n < 131 then (if n = 129 then some (.lor, 1) else none) else (if n = 131 then some (.lxor, 1) else none)))) else (if n < 145 then (if n < 133 then (if n = 132 then (match x, y with | some b, some d => some (.iinc b.toNat (Reader.signed 8 d.toNat), 3) | _, _ => none) else none) else (if n < 136 then (if n = 133 then some (.i2l, 1) else none) else (if n = 136 then some (.l2i, 1) else none))) else (if n < 148 then (if n < 146 then (if n = 145 then some (.i2b, 1) else none) else (if n = 146 then some (.i2c, 1) else none)) else (if n < 153 then (if n = 148 then some (.lcmp, 1) else none) else (if n = 153 then (match x, y with | some b, some d => some (.ifCond .eq (Reader.signed 16 (b.toNat * 256 + d.toNat)), 3) | _, _ => none) else none)))))) else (if n < 173 then (if n < 160 then (if n < 157 then (if n < 155 then (if n = 154 then (match x, y with | some b, some d => some (.ifCond .ne (Reader.signed 16 (b.toNat * 256 + d.toNat)), 3) | _, _ => none) else none) else (if n < 156 then (if n = 155 then (match x, y with | some b, some d => some (.ifCond .lt (Reader.signed 16 (b.toNat * 256 + d.toNat)), 3) | _, _ => none) else none) else (if n = 156 then (match x, y with | some b, some d => some (.ifCond .ge (Reader.signed 16 (b.toNat * 256 + d.toNat)), 3) | _, _ => none) else none))) else (if n < 158 then (if n = 157 then (match x, y with | some b, some d => some (.ifCond .gt (Reader.signed 16 (b.toNat * 256 + d.toNat)), 3) | _, _ => none) else none) else (if n < 159 then (if n = 158 then (match x, y with | some b, some d => some (.ifCond .le (Reader.signed 16 (b.toNat * 256 + d.toNat)), 3) | _, _ => none) else none) else (if n = 159 then (match x, y with | some b, some d => some (.if_icmp .eq (Reader.signed 16 (b.toNat * 256 + d.toNat)), 3) | _, _ => none) else none)))) else (if n < 163 then (if n < 161 then (if n = 160 then (match x, y with | some b, some d => some (.if_icmp .ne (Reader.signed 16 (b.toNat * 256 + d.toNat)), 3) | _, _ => none) else none) else (if n < 162 then (if n = 161 then (match x, y with | some b, some d => some (.if_icmp .lt (Reader.signed 16 (b.toNat * 256 + d.toNat)), 3) | _, _ => none) else none) else (if n = 162 then (match x, y with | some b, some d => some (.if_icmp .ge (Reader.signed 16 (b.toNat * 256 + d.toNat)), 3) | _, _ => none) else none))) else (if n < 167 then (if n < 164 then (if n = 163 then (match x, y with | some b, some d => some (.if_icmp .gt (Reader.signed 16 (b.toNat * 256 + d.toNat)), 3) | _, _ => none) else none) else (if n = 164 then (match x, y with | some b, some d => some (.if_icmp .le (Reader.signed 16 (b.toNat * 256 + d.toNat)), 3) | _, _ => none) else none)) else (if n < 172 then (if n = 167 then (match x, y with | some b, some d => some (.goto (Reader.signed 16 (b.toNat * 256 + d.toNat)), 3) | _, _ => none) else none) else (if n = 172 then some (.ireturn, 1) else none))))) else (if n < 183 then (if n < 178 then (if n < 176 then (if n = 173 then some (.lreturn, 1) else none) else (if n < 177 then (if n = 176 then some (.areturn, 1) else none) else (if n = 177 then some (.return_, 1) else none))) else (if n < 181 then (if n < 180 then (if n = 178 then (match x, y with | some b, some d => some (.getstatic (b.toNat * 256 + d.toNat), 3) | _, _ => none) else none) else (if n = 180 then (match x, y with | some b, some d => some (.getfield (b.toNat * 256 + d.toNat), 3) | _, _ => none) else none)) else (if n < 182 then (if n = 181 then (match x, y with | some b, some d => some (.putfield (b.toNat * 256 + d.toNat), 3) | _, _ => none) else none) else (if n = 182 then (match x, y with | some b, some d => some (.invokevirtual (b.toNat * 256 + d.toNat), 3) | _, _ => none) else none)))) else (if n < 190 then (if n < 184 then (if n = 183 then (match x, y with | some b, some d => some (.invokespecial (b.toNat * 256 + d.toNat), 3) | _, _ => none) else none) else (if n < 187 then (if n = 184 then (match x, y with | some b, some d => some (.invokestatic (b.toNat * 256 + d.toNat), 3) | _, _ => none) else none) else (if n = 187 then (match x, y with | some b, some d => some (.new (b.toNat * 256 + d.toNat), 3) | _, _ => none) else none))) else (if n < 192 then (if n < 191 then (if n = 190 then some (.arraylength, 1) else none) else (if n = 191 then some (.athrow, 1) else none)) else (if n < 199 then (if n = 192 then (match x, y with | some b, some d => some (.checkcast (b.toNat * 256 + d.toNat), 3) | _, _ => none) else none) else (if n = 199 then (match x, y with | some b, some d => some (.ifnonnull (Reader.signed 16 (b.toNat * 256 + d.toNat)), 3) | _, _ => none) else none))))))))
def fd (l : List UInt8) (p : Nat) : Option (Instr × Nat) := match l[p]? with
  | some b => if okOps.contains b.toNat then fdT b.toNat l[p + 1]? l[p + 2]? else none
  | none => none
theorem fd_n {c : ByteArray} {p : Nat} {n : Nat} {x y : Option UInt8} (hx : c.data[p + 1]? = x ∨ x = none) (hy : c.data[p + 1 + 1]? = y ∨ y = none) {r : Instr × Nat} (hn : n ∈ okOps) (h0 : dok c Reader.u1 p n (p + 1)) (h : fdT n x y = some r) : dok c (Decoder.instr p) p r.1 (p + r.2) := by
  have hX : ∀ {b}, x = some b → c.data[p + 1]? = some b := fun e => hx.elim (fun g => g.trans e) (fun g => by rw [g] at e; cases e)
  have hY : ∀ {b}, y = some b → c.data[p + 1 + 1]? = some b := fun e => hy.elim (fun g => g.trans e) (fun g => by rw [g] at e; cases e)
  unfold Decoder.instr
  refine dk_bind h0 ?_
  simp only [okOps, List.mem_cons, List.not_mem_nil, or_false] at hn
  rcases hn with rfl | rfl | rfl | rfl | rfl | rfl | rfl | rfl | rfl | rfl | rfl | rfl | rfl | rfl | rfl | rfl | rfl | rfl | rfl | rfl | rfl | rfl | rfl | rfl | rfl | rfl | rfl | rfl | rfl | rfl | rfl | rfl | rfl | rfl | rfl | rfl | rfl | rfl | rfl | rfl | rfl | rfl | rfl | rfl | rfl | rfl | rfl | rfl | rfl | rfl | rfl | rfl | rfl | rfl | rfl | rfl | rfl | rfl | rfl | rfl | rfl | rfl | rfl | rfl | rfl | rfl | rfl | rfl | rfl | rfl | rfl | rfl | rfl | rfl | rfl | rfl | rfl | rfl | rfl | rfl | rfl | rfl | rfl | rfl | rfl | rfl | rfl | rfl | rfl | rfl | rfl | rfl | rfl | rfl | rfl | rfl | rfl | rfl | rfl | rfl | rfl | rfl | rfl | rfl | rfl | rfl | rfl
  · cases (show some (Instr.aconst_null, 1) = some r from h); exact dk_pure
  · cases (show some (Instr.iconst (-1), 1) = some r from h); exact dk_pure
  · cases (show some (Instr.iconst 0, 1) = some r from h); exact dk_pure
  · cases (show some (Instr.iconst 1, 1) = some r from h); exact dk_pure
  · cases (show some (Instr.iconst 2, 1) = some r from h); exact dk_pure
  · cases (show some (Instr.iconst 3, 1) = some r from h); exact dk_pure
  · cases (show some (Instr.iconst 4, 1) = some r from h); exact dk_pure
  · cases (show some (Instr.iconst 5, 1) = some r from h); exact dk_pure
  · cases (show some (Instr.lconst 0, 1) = some r from h); exact dk_pure
  · cases (show some (Instr.lconst 1, 1) = some r from h); exact dk_pure
  · cases x with
    | none => exact absurd h (fun g => by cases g)
    | some b => cases (show some (Instr.bipush (Reader.signed 8 b.toNat), 2) = some r from h); exact dk_bind (dk_s1 (hX rfl)) dk_pure
  · cases x with
    | none => exact absurd h (fun g => by cases g)
    | some b =>
      cases y with
      | none => exact absurd h (fun g => by cases g)
      | some d => cases (show some (Instr.sipush (Reader.signed 16 (b.toNat * 256 + d.toNat)), 3) = some r from h); exact dk_bind (dk_s2 (hX rfl) (hY rfl)) dk_pure
  · cases x with
    | none => exact absurd h (fun g => by cases g)
    | some b => cases (show some (Instr.ldc b.toNat, 2) = some r from h); exact dk_bind (dk_u1 (hX rfl)) dk_pure
  · cases x with
    | none => exact absurd h (fun g => by cases g)
    | some b =>
      cases y with
      | none => exact absurd h (fun g => by cases g)
      | some d => cases (show some (Instr.ldc_w (b.toNat * 256 + d.toNat), 3) = some r from h); exact dk_bind (dk_u2 (hX rfl) (hY rfl)) dk_pure
  · cases x with
    | none => exact absurd h (fun g => by cases g)
    | some b =>
      cases y with
      | none => exact absurd h (fun g => by cases g)
      | some d => cases (show some (Instr.ldc2_w (b.toNat * 256 + d.toNat), 3) = some r from h); exact dk_bind (dk_u2 (hX rfl) (hY rfl)) dk_pure
  · cases x with
    | none => exact absurd h (fun g => by cases g)
    | some b => cases (show some (Instr.iload b.toNat, 2) = some r from h); exact dk_bind (dk_u1 (hX rfl)) dk_pure
  · cases x with
    | none => exact absurd h (fun g => by cases g)
    | some b => cases (show some (Instr.lload b.toNat, 2) = some r from h); exact dk_bind (dk_u1 (hX rfl)) dk_pure
  · cases x with
    | none => exact absurd h (fun g => by cases g)
    | some b => cases (show some (Instr.aload b.toNat, 2) = some r from h); exact dk_bind (dk_u1 (hX rfl)) dk_pure
  · cases (show some (Instr.iload_n 0, 1) = some r from h); exact dk_pure
  · cases (show some (Instr.iload_n 1, 1) = some r from h); exact dk_pure
  · cases (show some (Instr.iload_n 2, 1) = some r from h); exact dk_pure
  · cases (show some (Instr.iload_n 3, 1) = some r from h); exact dk_pure
  · cases (show some (Instr.lload_n 0, 1) = some r from h); exact dk_pure
  · cases (show some (Instr.lload_n 1, 1) = some r from h); exact dk_pure
  · cases (show some (Instr.lload_n 2, 1) = some r from h); exact dk_pure
  · cases (show some (Instr.lload_n 3, 1) = some r from h); exact dk_pure
  · cases (show some (Instr.aload_n 0, 1) = some r from h); exact dk_pure
  · cases (show some (Instr.aload_n 1, 1) = some r from h); exact dk_pure
  · cases (show some (Instr.aload_n 2, 1) = some r from h); exact dk_pure
  · cases (show some (Instr.aload_n 3, 1) = some r from h); exact dk_pure
  · cases (show some (Instr.iaload, 1) = some r from h); exact dk_pure
  · cases (show some (Instr.laload, 1) = some r from h); exact dk_pure
  · cases (show some (Instr.baload, 1) = some r from h); exact dk_pure
  · cases x with
    | none => exact absurd h (fun g => by cases g)
    | some b => cases (show some (Instr.istore b.toNat, 2) = some r from h); exact dk_bind (dk_u1 (hX rfl)) dk_pure
  · cases x with
    | none => exact absurd h (fun g => by cases g)
    | some b => cases (show some (Instr.lstore b.toNat, 2) = some r from h); exact dk_bind (dk_u1 (hX rfl)) dk_pure
  · cases x with
    | none => exact absurd h (fun g => by cases g)
    | some b => cases (show some (Instr.astore b.toNat, 2) = some r from h); exact dk_bind (dk_u1 (hX rfl)) dk_pure
  · cases (show some (Instr.istore_n 0, 1) = some r from h); exact dk_pure
  · cases (show some (Instr.istore_n 1, 1) = some r from h); exact dk_pure
  · cases (show some (Instr.istore_n 2, 1) = some r from h); exact dk_pure
  · cases (show some (Instr.istore_n 3, 1) = some r from h); exact dk_pure
  · cases (show some (Instr.lstore_n 0, 1) = some r from h); exact dk_pure
  · cases (show some (Instr.lstore_n 1, 1) = some r from h); exact dk_pure
  · cases (show some (Instr.lstore_n 2, 1) = some r from h); exact dk_pure
  · cases (show some (Instr.lstore_n 3, 1) = some r from h); exact dk_pure
  · cases (show some (Instr.astore_n 1, 1) = some r from h); exact dk_pure
  · cases (show some (Instr.astore_n 2, 1) = some r from h); exact dk_pure
  · cases (show some (Instr.astore_n 3, 1) = some r from h); exact dk_pure
  · cases (show some (Instr.lastore, 1) = some r from h); exact dk_pure
  · cases (show some (Instr.bastore, 1) = some r from h); exact dk_pure
  · cases (show some (Instr.pop, 1) = some r from h); exact dk_pure
  · cases (show some (Instr.dup, 1) = some r from h); exact dk_pure
  · cases (show some (Instr.dup_x1, 1) = some r from h); exact dk_pure
  · cases (show some (Instr.iadd, 1) = some r from h); exact dk_pure
  · cases (show some (Instr.ladd, 1) = some r from h); exact dk_pure
  · cases (show some (Instr.isub, 1) = some r from h); exact dk_pure
  · cases (show some (Instr.lsub, 1) = some r from h); exact dk_pure
  · cases (show some (Instr.imul, 1) = some r from h); exact dk_pure
  · cases (show some (Instr.lmul, 1) = some r from h); exact dk_pure
  · cases (show some (Instr.idiv, 1) = some r from h); exact dk_pure
  · cases (show some (Instr.ldiv, 1) = some r from h); exact dk_pure
  · cases (show some (Instr.irem, 1) = some r from h); exact dk_pure
  · cases (show some (Instr.lrem, 1) = some r from h); exact dk_pure
  · cases (show some (Instr.ineg, 1) = some r from h); exact dk_pure
  · cases (show some (Instr.ishl, 1) = some r from h); exact dk_pure
  · cases (show some (Instr.lshl, 1) = some r from h); exact dk_pure
  · cases (show some (Instr.ishr, 1) = some r from h); exact dk_pure
  · cases (show some (Instr.iushr, 1) = some r from h); exact dk_pure
  · cases (show some (Instr.lushr, 1) = some r from h); exact dk_pure
  · cases (show some (Instr.iand, 1) = some r from h); exact dk_pure
  · cases (show some (Instr.land, 1) = some r from h); exact dk_pure
  · cases (show some (Instr.ior, 1) = some r from h); exact dk_pure
  · cases (show some (Instr.lor, 1) = some r from h); exact dk_pure
  · cases (show some (Instr.lxor, 1) = some r from h); exact dk_pure
  · cases x with
    | none => exact absurd h (fun g => by cases g)
    | some b =>
      cases y with
      | none => exact absurd h (fun g => by cases g)
      | some d => cases (show some (Instr.iinc b.toNat (Reader.signed 8 d.toNat), 3) = some r from h); exact dk_bind (dk_u1 (hX rfl)) (dk_bind (dk_s1 (hY rfl)) dk_pure)
  · cases (show some (Instr.i2l, 1) = some r from h); exact dk_pure
  · cases (show some (Instr.l2i, 1) = some r from h); exact dk_pure
  · cases (show some (Instr.i2b, 1) = some r from h); exact dk_pure
  · cases (show some (Instr.i2c, 1) = some r from h); exact dk_pure
  · cases (show some (Instr.lcmp, 1) = some r from h); exact dk_pure
  · cases x with
    | none => exact absurd h (fun g => by cases g)
    | some b =>
      cases y with
      | none => exact absurd h (fun g => by cases g)
      | some d => cases (show some (Instr.ifCond .eq (Reader.signed 16 (b.toNat * 256 + d.toNat)), 3) = some r from h); exact dk_bind (dk_s2 (hX rfl) (hY rfl)) dk_pure
  · cases x with
    | none => exact absurd h (fun g => by cases g)
    | some b =>
      cases y with
      | none => exact absurd h (fun g => by cases g)
      | some d => cases (show some (Instr.ifCond .ne (Reader.signed 16 (b.toNat * 256 + d.toNat)), 3) = some r from h); exact dk_bind (dk_s2 (hX rfl) (hY rfl)) dk_pure
  · cases x with
    | none => exact absurd h (fun g => by cases g)
    | some b =>
      cases y with
      | none => exact absurd h (fun g => by cases g)
      | some d => cases (show some (Instr.ifCond .lt (Reader.signed 16 (b.toNat * 256 + d.toNat)), 3) = some r from h); exact dk_bind (dk_s2 (hX rfl) (hY rfl)) dk_pure
  · cases x with
    | none => exact absurd h (fun g => by cases g)
    | some b =>
      cases y with
      | none => exact absurd h (fun g => by cases g)
      | some d => cases (show some (Instr.ifCond .ge (Reader.signed 16 (b.toNat * 256 + d.toNat)), 3) = some r from h); exact dk_bind (dk_s2 (hX rfl) (hY rfl)) dk_pure
  · cases x with
    | none => exact absurd h (fun g => by cases g)
    | some b =>
      cases y with
      | none => exact absurd h (fun g => by cases g)
      | some d => cases (show some (Instr.ifCond .gt (Reader.signed 16 (b.toNat * 256 + d.toNat)), 3) = some r from h); exact dk_bind (dk_s2 (hX rfl) (hY rfl)) dk_pure
  · cases x with
    | none => exact absurd h (fun g => by cases g)
    | some b =>
      cases y with
      | none => exact absurd h (fun g => by cases g)
      | some d => cases (show some (Instr.ifCond .le (Reader.signed 16 (b.toNat * 256 + d.toNat)), 3) = some r from h); exact dk_bind (dk_s2 (hX rfl) (hY rfl)) dk_pure
  · cases x with
    | none => exact absurd h (fun g => by cases g)
    | some b =>
      cases y with
      | none => exact absurd h (fun g => by cases g)
      | some d => cases (show some (Instr.if_icmp .eq (Reader.signed 16 (b.toNat * 256 + d.toNat)), 3) = some r from h); exact dk_bind (dk_s2 (hX rfl) (hY rfl)) dk_pure
  · cases x with
    | none => exact absurd h (fun g => by cases g)
    | some b =>
      cases y with
      | none => exact absurd h (fun g => by cases g)
      | some d => cases (show some (Instr.if_icmp .ne (Reader.signed 16 (b.toNat * 256 + d.toNat)), 3) = some r from h); exact dk_bind (dk_s2 (hX rfl) (hY rfl)) dk_pure
  · cases x with
    | none => exact absurd h (fun g => by cases g)
    | some b =>
      cases y with
      | none => exact absurd h (fun g => by cases g)
      | some d => cases (show some (Instr.if_icmp .lt (Reader.signed 16 (b.toNat * 256 + d.toNat)), 3) = some r from h); exact dk_bind (dk_s2 (hX rfl) (hY rfl)) dk_pure
  · cases x with
    | none => exact absurd h (fun g => by cases g)
    | some b =>
      cases y with
      | none => exact absurd h (fun g => by cases g)
      | some d => cases (show some (Instr.if_icmp .ge (Reader.signed 16 (b.toNat * 256 + d.toNat)), 3) = some r from h); exact dk_bind (dk_s2 (hX rfl) (hY rfl)) dk_pure
  · cases x with
    | none => exact absurd h (fun g => by cases g)
    | some b =>
      cases y with
      | none => exact absurd h (fun g => by cases g)
      | some d => cases (show some (Instr.if_icmp .gt (Reader.signed 16 (b.toNat * 256 + d.toNat)), 3) = some r from h); exact dk_bind (dk_s2 (hX rfl) (hY rfl)) dk_pure
  · cases x with
    | none => exact absurd h (fun g => by cases g)
    | some b =>
      cases y with
      | none => exact absurd h (fun g => by cases g)
      | some d => cases (show some (Instr.if_icmp .le (Reader.signed 16 (b.toNat * 256 + d.toNat)), 3) = some r from h); exact dk_bind (dk_s2 (hX rfl) (hY rfl)) dk_pure
  · cases x with
    | none => exact absurd h (fun g => by cases g)
    | some b =>
      cases y with
      | none => exact absurd h (fun g => by cases g)
      | some d => cases (show some (Instr.goto (Reader.signed 16 (b.toNat * 256 + d.toNat)), 3) = some r from h); exact dk_bind (dk_s2 (hX rfl) (hY rfl)) dk_pure
  · cases (show some (Instr.ireturn, 1) = some r from h); exact dk_pure
  · cases (show some (Instr.lreturn, 1) = some r from h); exact dk_pure
  · cases (show some (Instr.areturn, 1) = some r from h); exact dk_pure
  · cases (show some (Instr.return_, 1) = some r from h); exact dk_pure
  · cases x with
    | none => exact absurd h (fun g => by cases g)
    | some b =>
      cases y with
      | none => exact absurd h (fun g => by cases g)
      | some d => cases (show some (Instr.getstatic (b.toNat * 256 + d.toNat), 3) = some r from h); exact dk_bind (dk_u2 (hX rfl) (hY rfl)) dk_pure
  · cases x with
    | none => exact absurd h (fun g => by cases g)
    | some b =>
      cases y with
      | none => exact absurd h (fun g => by cases g)
      | some d => cases (show some (Instr.getfield (b.toNat * 256 + d.toNat), 3) = some r from h); exact dk_bind (dk_u2 (hX rfl) (hY rfl)) dk_pure
  · cases x with
    | none => exact absurd h (fun g => by cases g)
    | some b =>
      cases y with
      | none => exact absurd h (fun g => by cases g)
      | some d => cases (show some (Instr.putfield (b.toNat * 256 + d.toNat), 3) = some r from h); exact dk_bind (dk_u2 (hX rfl) (hY rfl)) dk_pure
  · cases x with
    | none => exact absurd h (fun g => by cases g)
    | some b =>
      cases y with
      | none => exact absurd h (fun g => by cases g)
      | some d => cases (show some (Instr.invokevirtual (b.toNat * 256 + d.toNat), 3) = some r from h); exact dk_bind (dk_u2 (hX rfl) (hY rfl)) dk_pure
  · cases x with
    | none => exact absurd h (fun g => by cases g)
    | some b =>
      cases y with
      | none => exact absurd h (fun g => by cases g)
      | some d => cases (show some (Instr.invokespecial (b.toNat * 256 + d.toNat), 3) = some r from h); exact dk_bind (dk_u2 (hX rfl) (hY rfl)) dk_pure
  · cases x with
    | none => exact absurd h (fun g => by cases g)
    | some b =>
      cases y with
      | none => exact absurd h (fun g => by cases g)
      | some d => cases (show some (Instr.invokestatic (b.toNat * 256 + d.toNat), 3) = some r from h); exact dk_bind (dk_u2 (hX rfl) (hY rfl)) dk_pure
  · cases x with
    | none => exact absurd h (fun g => by cases g)
    | some b =>
      cases y with
      | none => exact absurd h (fun g => by cases g)
      | some d => cases (show some (Instr.new (b.toNat * 256 + d.toNat), 3) = some r from h); exact dk_bind (dk_u2 (hX rfl) (hY rfl)) dk_pure
  · cases (show some (Instr.arraylength, 1) = some r from h); exact dk_pure
  · cases (show some (Instr.athrow, 1) = some r from h); exact dk_pure
  · cases x with
    | none => exact absurd h (fun g => by cases g)
    | some b =>
      cases y with
      | none => exact absurd h (fun g => by cases g)
      | some d => cases (show some (Instr.checkcast (b.toNat * 256 + d.toNat), 3) = some r from h); exact dk_bind (dk_u2 (hX rfl) (hY rfl)) dk_pure
  · cases x with
    | none => exact absurd h (fun g => by cases g)
    | some b =>
      cases y with
      | none => exact absurd h (fun g => by cases g)
      | some d => cases (show some (Instr.ifnonnull (Reader.signed 16 (b.toNat * 256 + d.toNat)), 3) = some r from h); exact dk_bind (dk_s2 (hX rfl) (hY rfl)) dk_pure
def dwchk (c : ByteArray) (k : Nat) (l : List UInt8) (rows : List (Nat × Instr × Nat)) : Bool :=
  decide ((c.data.toList.drop k).take l.length = l) && rows.all (fun q => decide (fd l q.1 = some q.2))
def dwcj (c : ByteArray) (k : Nat) : List (Nat × Instr × Nat) → Prop
  | [] => True
  | q :: r => decode c (k + q.1) = .ok q.2 ∧ dwcj c k r
theorem dw_one {c : ByteArray} {k : Nat} {l : List UInt8} (hw : ∀ (j : Nat) (b : UInt8), l[j]? = some b → c.data[k + j]? = some b) {p : Nat} {r : Instr × Nat} (h : fd l p = some r) : decode c (k + p) = .ok r := by
  unfold fd at h
  split at h
  · rename_i b hb
    split at h
    · rename_i hn
      have hx : c.data[k + p + 1]? = l[p + 1]? ∨ l[p + 1]? = none := by
        cases e : l[p + 1]? with
        | none => exact Or.inr rfl
        | some d => exact Or.inl (hw (p + 1) d e)
      have hy : c.data[k + p + 1 + 1]? = l[p + 2]? ∨ l[p + 2]? = none := by
        cases e : l[p + 2]? with
        | none => exact Or.inr rfl
        | some d => exact Or.inl (hw (p + 2) d e)
      have hi := fd_n hx hy (List.contains_iff_mem.mp hn) (dk_u1 (hw p b hb)) h
      show (do let (i, nx) ← Decoder.instr (k + p) c (k + p); pure (i, nx - (k + p)) : Except DecodeError (Instr × Nat)) = .ok r
      rw [show Decoder.instr (k + p) c (k + p) = .ok (r.1, k + p + r.2) from hi]
      show (Except.ok (r.1, k + p + r.2 - (k + p)) : Except DecodeError (Instr × Nat)) = .ok r
      rw [show k + p + r.2 - (k + p) = r.2 by omega]
    · cases h
  · cases h
theorem dw_all {c : ByteArray} {k : Nat} {l : List UInt8} {rows : List (Nat × Instr × Nat)} (h : dwchk c k l rows = true) : dwcj c k rows := by
  obtain ⟨h1, h2⟩ := Bool.and_eq_true_iff.mp h
  have h1 := of_decide_eq_true h1
  have hw : ∀ (j : Nat) (b : UInt8), l[j]? = some b → c.data[k + j]? = some b := by
    intro j b hj
    rw [← h1, List.getElem?_take] at hj
    split at hj
    · rw [List.getElem?_drop] at hj
      simpa using hj
    · cases hj
  clear h h1
  induction rows with
  | nil => trivial
  | cons q r ih =>
    rw [List.all_cons] at h2
    obtain ⟨h3, h4⟩ := Bool.and_eq_true_iff.mp h2
    exact ⟨dw_one hw (of_decide_eq_true h3), ih h4⟩
end DW
theorem wtX0_isOne_0 : dwcj cX0_isOne 0 [(0, .lload_n 0, 1), (1, .invokestatic 9, 3), (4, .istore_n 2, 1), (5, .iload_n 2, 1), (6, .iconst 1, 1), (7, .if_icmp .ge 5, 3), (10, .iconst 0, 1), (11, .ireturn, 1), (12, .iload_n 2, 1), (13, .iconst 2, 1), (14, .idiv, 1), (15, .iconst 1, 1), (16, .iadd, 1), (17, .invokestatic 15, 3), (20, .lstore_n 3, 1), (21, .ldc2_w 19, 3)] := dw_all (l := [30, 184, 0, 9, 61, 28, 4, 162, 0, 5, 3, 172, 28, 5, 108, 4, 96, 184, 0, 15, 66, 20, 0, 19]) (by decide +kernel)
theorem dX0_isOne_0 : decode cX0_isOne 0 = .ok (.lload_n 0, 1) := wtX0_isOne_0.1
theorem dX0_isOne_1 : decode cX0_isOne 1 = .ok (.invokestatic 9, 3) := wtX0_isOne_0.2.1
theorem dX0_isOne_4 : decode cX0_isOne 4 = .ok (.istore_n 2, 1) := wtX0_isOne_0.2.2.1
theorem dX0_isOne_5 : decode cX0_isOne 5 = .ok (.iload_n 2, 1) := wtX0_isOne_0.2.2.2.1
theorem dX0_isOne_6 : decode cX0_isOne 6 = .ok (.iconst 1, 1) := wtX0_isOne_0.2.2.2.2.1
theorem dX0_isOne_7 : decode cX0_isOne 7 = .ok (.if_icmp .ge 5, 3) := wtX0_isOne_0.2.2.2.2.2.1
theorem dX0_isOne_10 : decode cX0_isOne 10 = .ok (.iconst 0, 1) := wtX0_isOne_0.2.2.2.2.2.2.1
theorem dX0_isOne_11 : decode cX0_isOne 11 = .ok (.ireturn, 1) := wtX0_isOne_0.2.2.2.2.2.2.2.1
theorem dX0_isOne_12 : decode cX0_isOne 12 = .ok (.iload_n 2, 1) := wtX0_isOne_0.2.2.2.2.2.2.2.2.1
theorem dX0_isOne_13 : decode cX0_isOne 13 = .ok (.iconst 2, 1) := wtX0_isOne_0.2.2.2.2.2.2.2.2.2.1
theorem dX0_isOne_14 : decode cX0_isOne 14 = .ok (.idiv, 1) := wtX0_isOne_0.2.2.2.2.2.2.2.2.2.2.1
theorem dX0_isOne_15 : decode cX0_isOne 15 = .ok (.iconst 1, 1) := wtX0_isOne_0.2.2.2.2.2.2.2.2.2.2.2.1
theorem dX0_isOne_16 : decode cX0_isOne 16 = .ok (.iadd, 1) := wtX0_isOne_0.2.2.2.2.2.2.2.2.2.2.2.2.1
theorem dX0_isOne_17 : decode cX0_isOne 17 = .ok (.invokestatic 15, 3) := wtX0_isOne_0.2.2.2.2.2.2.2.2.2.2.2.2.2.1
theorem dX0_isOne_20 : decode cX0_isOne 20 = .ok (.lstore_n 3, 1) := wtX0_isOne_0.2.2.2.2.2.2.2.2.2.2.2.2.2.2.1
theorem dX0_isOne_21 : decode cX0_isOne 21 = .ok (.ldc2_w 19, 3) := wtX0_isOne_0.2.2.2.2.2.2.2.2.2.2.2.2.2.2.2.1
theorem wtX0_isOne_24 : dwcj cX0_isOne 24 [(0, .lstore 5, 2), (2, .lload 5, 2), (4, .lload_n 3, 1), (5, .lcmp, 1), (6, .ifCond .ge 23, 3), (9, .lload 5, 2), (11, .lload_n 0, 1), (12, .invokestatic 21, 3), (15, .ifCond .eq 5, 3), (18, .iconst 0, 1), (19, .ireturn, 1), (20, .lload 5, 2), (22, .lconst 1, 1), (23, .ladd, 1)] := dw_all (l := [55, 5, 22, 5, 33, 148, 156, 0, 23, 22, 5, 30, 184, 0, 21, 153, 0, 5, 3, 172, 22, 5, 10, 97]) (by decide +kernel)
theorem dX0_isOne_24 : decode cX0_isOne 24 = .ok (.lstore 5, 2) := wtX0_isOne_24.1
theorem dX0_isOne_26 : decode cX0_isOne 26 = .ok (.lload 5, 2) := wtX0_isOne_24.2.1
theorem dX0_isOne_28 : decode cX0_isOne 28 = .ok (.lload_n 3, 1) := wtX0_isOne_24.2.2.1
theorem dX0_isOne_29 : decode cX0_isOne 29 = .ok (.lcmp, 1) := wtX0_isOne_24.2.2.2.1
theorem dX0_isOne_30 : decode cX0_isOne 30 = .ok (.ifCond .ge 23, 3) := wtX0_isOne_24.2.2.2.2.1
theorem dX0_isOne_33 : decode cX0_isOne 33 = .ok (.lload 5, 2) := wtX0_isOne_24.2.2.2.2.2.1
theorem dX0_isOne_35 : decode cX0_isOne 35 = .ok (.lload_n 0, 1) := wtX0_isOne_24.2.2.2.2.2.2.1
theorem dX0_isOne_36 : decode cX0_isOne 36 = .ok (.invokestatic 21, 3) := wtX0_isOne_24.2.2.2.2.2.2.2.1
theorem dX0_isOne_39 : decode cX0_isOne 39 = .ok (.ifCond .eq 5, 3) := wtX0_isOne_24.2.2.2.2.2.2.2.2.1
theorem dX0_isOne_42 : decode cX0_isOne 42 = .ok (.iconst 0, 1) := wtX0_isOne_24.2.2.2.2.2.2.2.2.2.1
theorem dX0_isOne_43 : decode cX0_isOne 43 = .ok (.ireturn, 1) := wtX0_isOne_24.2.2.2.2.2.2.2.2.2.2.1
theorem dX0_isOne_44 : decode cX0_isOne 44 = .ok (.lload 5, 2) := wtX0_isOne_24.2.2.2.2.2.2.2.2.2.2.2.1
theorem dX0_isOne_46 : decode cX0_isOne 46 = .ok (.lconst 1, 1) := wtX0_isOne_24.2.2.2.2.2.2.2.2.2.2.2.2.1
theorem dX0_isOne_47 : decode cX0_isOne 47 = .ok (.ladd, 1) := wtX0_isOne_24.2.2.2.2.2.2.2.2.2.2.2.2.2.1
theorem wtX0_isOne_48 : dwcj cX0_isOne 48 [(0, .lstore 5, 2), (2, .goto (-24), 3), (5, .iconst 1, 1), (6, .ireturn, 1)] := dw_all (l := [55, 5, 167, 255, 232, 4, 172]) (by decide +kernel)
theorem dX0_isOne_48 : decode cX0_isOne 48 = .ok (.lstore 5, 2) := wtX0_isOne_48.1
theorem dX0_isOne_50 : decode cX0_isOne 50 = .ok (.goto (-24), 3) := wtX0_isOne_48.2.1
theorem dX0_isOne_53 : decode cX0_isOne 53 = .ok (.iconst 1, 1) := wtX0_isOne_48.2.2.1
theorem dX0_isOne_54 : decode cX0_isOne 54 = .ok (.ireturn, 1) := wtX0_isOne_48.2.2.2.1
theorem wtX0_countBelow_0 : dwcj cX0_countBelow 0 [(0, .iconst 0, 1), (1, .istore_n 3, 1), (2, .iload_n 0, 1), (3, .invokestatic 15, 3), (6, .lstore 4, 2), (8, .lload 4, 2), (10, .lload_n 1, 1), (11, .lcmp, 1), (12, .ifCond .ge 23, 3), (15, .lload 4, 2), (17, .invokestatic 25, 3), (20, .ifCond .eq 6, 3), (23, .iinc 3 1, 3)] := dw_all (l := [3, 62, 26, 184, 0, 15, 55, 4, 22, 4, 31, 148, 156, 0, 23, 22, 4, 184, 0, 25, 153, 0, 6, 132, 3, 1]) (by decide +kernel)
theorem dX0_countBelow_0 : decode cX0_countBelow 0 = .ok (.iconst 0, 1) := wtX0_countBelow_0.1
theorem dX0_countBelow_1 : decode cX0_countBelow 1 = .ok (.istore_n 3, 1) := wtX0_countBelow_0.2.1
theorem dX0_countBelow_2 : decode cX0_countBelow 2 = .ok (.iload_n 0, 1) := wtX0_countBelow_0.2.2.1
theorem dX0_countBelow_3 : decode cX0_countBelow 3 = .ok (.invokestatic 15, 3) := wtX0_countBelow_0.2.2.2.1
theorem dX0_countBelow_6 : decode cX0_countBelow 6 = .ok (.lstore 4, 2) := wtX0_countBelow_0.2.2.2.2.1
theorem dX0_countBelow_8 : decode cX0_countBelow 8 = .ok (.lload 4, 2) := wtX0_countBelow_0.2.2.2.2.2.1
theorem dX0_countBelow_10 : decode cX0_countBelow 10 = .ok (.lload_n 1, 1) := wtX0_countBelow_0.2.2.2.2.2.2.1
theorem dX0_countBelow_11 : decode cX0_countBelow 11 = .ok (.lcmp, 1) := wtX0_countBelow_0.2.2.2.2.2.2.2.1
theorem dX0_countBelow_12 : decode cX0_countBelow 12 = .ok (.ifCond .ge 23, 3) := wtX0_countBelow_0.2.2.2.2.2.2.2.2.1
theorem dX0_countBelow_15 : decode cX0_countBelow 15 = .ok (.lload 4, 2) := wtX0_countBelow_0.2.2.2.2.2.2.2.2.2.1
theorem dX0_countBelow_17 : decode cX0_countBelow 17 = .ok (.invokestatic 25, 3) := wtX0_countBelow_0.2.2.2.2.2.2.2.2.2.2.1
theorem dX0_countBelow_20 : decode cX0_countBelow 20 = .ok (.ifCond .eq 6, 3) := wtX0_countBelow_0.2.2.2.2.2.2.2.2.2.2.2.1
theorem dX0_countBelow_23 : decode cX0_countBelow 23 = .ok (.iinc 3 1, 3) := wtX0_countBelow_0.2.2.2.2.2.2.2.2.2.2.2.2.1
theorem wtX0_countBelow_26 : dwcj cX0_countBelow 26 [(0, .lload 4, 2), (2, .lconst 1, 1), (3, .ladd, 1), (4, .lstore 4, 2), (6, .goto (-24), 3), (9, .iload_n 3, 1), (10, .ireturn, 1)] := dw_all (l := [22, 4, 10, 97, 55, 4, 167, 255, 232, 29, 172]) (by decide +kernel)
theorem dX0_countBelow_26 : decode cX0_countBelow 26 = .ok (.lload 4, 2) := wtX0_countBelow_26.1
theorem dX0_countBelow_28 : decode cX0_countBelow 28 = .ok (.lconst 1, 1) := wtX0_countBelow_26.2.1
theorem dX0_countBelow_29 : decode cX0_countBelow 29 = .ok (.ladd, 1) := wtX0_countBelow_26.2.2.1
theorem dX0_countBelow_30 : decode cX0_countBelow 30 = .ok (.lstore 4, 2) := wtX0_countBelow_26.2.2.2.1
theorem dX0_countBelow_32 : decode cX0_countBelow 32 = .ok (.goto (-24), 3) := wtX0_countBelow_26.2.2.2.2.1
theorem dX0_countBelow_35 : decode cX0_countBelow 35 = .ok (.iload_n 3, 1) := wtX0_countBelow_26.2.2.2.2.2.1
theorem dX0_countBelow_36 : decode cX0_countBelow 36 = .ok (.ireturn, 1) := wtX0_countBelow_26.2.2.2.2.2.2.1
theorem wtX0_withRank_0 : dwcj cX0_withRank 0 [(0, .iconst 0, 1), (1, .istore_n 2, 1), (2, .iload_n 0, 1), (3, .invokestatic 15, 3), (6, .lstore_n 3, 1), (7, .lload_n 3, 1), (8, .iload_n 0, 1), (9, .iconst 1, 1), (10, .iadd, 1), (11, .invokestatic 15, 3), (14, .lcmp, 1), (15, .ifCond .ge 27, 3), (18, .lload_n 3, 1), (19, .invokestatic 25, 3), (22, .ifCond .eq 13, 3)] := dw_all (l := [3, 61, 26, 184, 0, 15, 66, 33, 26, 4, 96, 184, 0, 15, 148, 156, 0, 27, 33, 184, 0, 25, 153, 0, 13]) (by decide +kernel)
theorem dX0_withRank_0 : decode cX0_withRank 0 = .ok (.iconst 0, 1) := wtX0_withRank_0.1
theorem dX0_withRank_1 : decode cX0_withRank 1 = .ok (.istore_n 2, 1) := wtX0_withRank_0.2.1
theorem dX0_withRank_2 : decode cX0_withRank 2 = .ok (.iload_n 0, 1) := wtX0_withRank_0.2.2.1
theorem dX0_withRank_3 : decode cX0_withRank 3 = .ok (.invokestatic 15, 3) := wtX0_withRank_0.2.2.2.1
theorem dX0_withRank_6 : decode cX0_withRank 6 = .ok (.lstore_n 3, 1) := wtX0_withRank_0.2.2.2.2.1
theorem dX0_withRank_7 : decode cX0_withRank 7 = .ok (.lload_n 3, 1) := wtX0_withRank_0.2.2.2.2.2.1
theorem dX0_withRank_8 : decode cX0_withRank 8 = .ok (.iload_n 0, 1) := wtX0_withRank_0.2.2.2.2.2.2.1
theorem dX0_withRank_9 : decode cX0_withRank 9 = .ok (.iconst 1, 1) := wtX0_withRank_0.2.2.2.2.2.2.2.1
theorem dX0_withRank_10 : decode cX0_withRank 10 = .ok (.iadd, 1) := wtX0_withRank_0.2.2.2.2.2.2.2.2.1
theorem dX0_withRank_11 : decode cX0_withRank 11 = .ok (.invokestatic 15, 3) := wtX0_withRank_0.2.2.2.2.2.2.2.2.2.1
theorem dX0_withRank_14 : decode cX0_withRank 14 = .ok (.lcmp, 1) := wtX0_withRank_0.2.2.2.2.2.2.2.2.2.2.1
theorem dX0_withRank_15 : decode cX0_withRank 15 = .ok (.ifCond .ge 27, 3) := wtX0_withRank_0.2.2.2.2.2.2.2.2.2.2.2.1
theorem dX0_withRank_18 : decode cX0_withRank 18 = .ok (.lload_n 3, 1) := wtX0_withRank_0.2.2.2.2.2.2.2.2.2.2.2.2.1
theorem dX0_withRank_19 : decode cX0_withRank 19 = .ok (.invokestatic 25, 3) := wtX0_withRank_0.2.2.2.2.2.2.2.2.2.2.2.2.2.1
theorem dX0_withRank_22 : decode cX0_withRank 22 = .ok (.ifCond .eq 13, 3) := wtX0_withRank_0.2.2.2.2.2.2.2.2.2.2.2.2.2.2.1
theorem wtX0_withRank_25 : dwcj cX0_withRank 25 [(0, .iload_n 2, 1), (1, .iload_n 1, 1), (2, .if_icmp .ne 5, 3), (5, .lload_n 3, 1), (6, .lreturn, 1), (7, .iinc 2 1, 3), (10, .lload_n 3, 1), (11, .lconst 1, 1), (12, .ladd, 1), (13, .lstore_n 3, 1), (14, .goto (-32), 3), (17, .lconst 0, 1), (18, .lreturn, 1)] := dw_all (l := [28, 27, 160, 0, 5, 33, 173, 132, 2, 1, 33, 10, 97, 66, 167, 255, 224, 9, 173]) (by decide +kernel)
theorem dX0_withRank_25 : decode cX0_withRank 25 = .ok (.iload_n 2, 1) := wtX0_withRank_25.1
theorem dX0_withRank_26 : decode cX0_withRank 26 = .ok (.iload_n 1, 1) := wtX0_withRank_25.2.1
theorem dX0_withRank_27 : decode cX0_withRank 27 = .ok (.if_icmp .ne 5, 3) := wtX0_withRank_25.2.2.1
theorem dX0_withRank_30 : decode cX0_withRank 30 = .ok (.lload_n 3, 1) := wtX0_withRank_25.2.2.2.1
theorem dX0_withRank_31 : decode cX0_withRank 31 = .ok (.lreturn, 1) := wtX0_withRank_25.2.2.2.2.1
theorem dX0_withRank_32 : decode cX0_withRank 32 = .ok (.iinc 2 1, 3) := wtX0_withRank_25.2.2.2.2.2.1
theorem dX0_withRank_35 : decode cX0_withRank 35 = .ok (.lload_n 3, 1) := wtX0_withRank_25.2.2.2.2.2.2.1
theorem dX0_withRank_36 : decode cX0_withRank 36 = .ok (.lconst 1, 1) := wtX0_withRank_25.2.2.2.2.2.2.2.1
theorem dX0_withRank_37 : decode cX0_withRank 37 = .ok (.ladd, 1) := wtX0_withRank_25.2.2.2.2.2.2.2.2.1
theorem dX0_withRank_38 : decode cX0_withRank 38 = .ok (.lstore_n 3, 1) := wtX0_withRank_25.2.2.2.2.2.2.2.2.2.1
theorem dX0_withRank_39 : decode cX0_withRank 39 = .ok (.goto (-32), 3) := wtX0_withRank_25.2.2.2.2.2.2.2.2.2.2.1
theorem dX0_withRank_42 : decode cX0_withRank 42 = .ok (.lconst 0, 1) := wtX0_withRank_25.2.2.2.2.2.2.2.2.2.2.2.1
theorem dX0_withRank_43 : decode cX0_withRank 43 = .ok (.lreturn, 1) := wtX0_withRank_25.2.2.2.2.2.2.2.2.2.2.2.2.1
theorem wtX0_productForDivisors_0 : dwcj cX0_productForDivisors 0 [(0, .lconst 1, 1), (1, .lstore_n 1, 1), (2, .iconst 1, 1), (3, .istore_n 3, 1), (4, .iload_n 3, 1), (5, .iload_n 0, 1), (6, .if_icmp .gt 21, 3), (9, .iload_n 0, 1), (10, .iload_n 3, 1), (11, .irem, 1), (12, .ifCond .ne 9, 3), (15, .lload_n 1, 1), (16, .iload_n 3, 1), (17, .invokestatic 31, 3), (20, .lstore_n 1, 1), (21, .iinc 3 1, 3)] := dw_all (l := [10, 64, 4, 62, 29, 26, 163, 0, 21, 26, 29, 112, 154, 0, 9, 31, 29, 184, 0, 31, 64, 132, 3, 1]) (by decide +kernel)
theorem dX0_productForDivisors_0 : decode cX0_productForDivisors 0 = .ok (.lconst 1, 1) := wtX0_productForDivisors_0.1
theorem dX0_productForDivisors_1 : decode cX0_productForDivisors 1 = .ok (.lstore_n 1, 1) := wtX0_productForDivisors_0.2.1
theorem dX0_productForDivisors_2 : decode cX0_productForDivisors 2 = .ok (.iconst 1, 1) := wtX0_productForDivisors_0.2.2.1
theorem dX0_productForDivisors_3 : decode cX0_productForDivisors 3 = .ok (.istore_n 3, 1) := wtX0_productForDivisors_0.2.2.2.1
theorem dX0_productForDivisors_4 : decode cX0_productForDivisors 4 = .ok (.iload_n 3, 1) := wtX0_productForDivisors_0.2.2.2.2.1
theorem dX0_productForDivisors_5 : decode cX0_productForDivisors 5 = .ok (.iload_n 0, 1) := wtX0_productForDivisors_0.2.2.2.2.2.1
theorem dX0_productForDivisors_6 : decode cX0_productForDivisors 6 = .ok (.if_icmp .gt 21, 3) := wtX0_productForDivisors_0.2.2.2.2.2.2.1
theorem dX0_productForDivisors_9 : decode cX0_productForDivisors 9 = .ok (.iload_n 0, 1) := wtX0_productForDivisors_0.2.2.2.2.2.2.2.1
theorem dX0_productForDivisors_10 : decode cX0_productForDivisors 10 = .ok (.iload_n 3, 1) := wtX0_productForDivisors_0.2.2.2.2.2.2.2.2.1
theorem dX0_productForDivisors_11 : decode cX0_productForDivisors 11 = .ok (.irem, 1) := wtX0_productForDivisors_0.2.2.2.2.2.2.2.2.2.1
theorem dX0_productForDivisors_12 : decode cX0_productForDivisors 12 = .ok (.ifCond .ne 9, 3) := wtX0_productForDivisors_0.2.2.2.2.2.2.2.2.2.2.1
theorem dX0_productForDivisors_15 : decode cX0_productForDivisors 15 = .ok (.lload_n 1, 1) := wtX0_productForDivisors_0.2.2.2.2.2.2.2.2.2.2.2.1
theorem dX0_productForDivisors_16 : decode cX0_productForDivisors 16 = .ok (.iload_n 3, 1) := wtX0_productForDivisors_0.2.2.2.2.2.2.2.2.2.2.2.2.1
theorem dX0_productForDivisors_17 : decode cX0_productForDivisors 17 = .ok (.invokestatic 31, 3) := wtX0_productForDivisors_0.2.2.2.2.2.2.2.2.2.2.2.2.2.1
theorem dX0_productForDivisors_20 : decode cX0_productForDivisors 20 = .ok (.lstore_n 1, 1) := wtX0_productForDivisors_0.2.2.2.2.2.2.2.2.2.2.2.2.2.2.1
theorem dX0_productForDivisors_21 : decode cX0_productForDivisors 21 = .ok (.iinc 3 1, 3) := wtX0_productForDivisors_0.2.2.2.2.2.2.2.2.2.2.2.2.2.2.2.1
theorem wtX0_productForDivisors_24 : dwcj cX0_productForDivisors 24 [(0, .goto (-20), 3), (3, .lload_n 1, 1), (4, .lreturn, 1)] := dw_all (l := [167, 255, 236, 31, 173]) (by decide +kernel)
theorem dX0_productForDivisors_24 : decode cX0_productForDivisors 24 = .ok (.goto (-20), 3) := wtX0_productForDivisors_24.1
theorem dX0_productForDivisors_27 : decode cX0_productForDivisors 27 = .ok (.lload_n 1, 1) := wtX0_productForDivisors_24.2.1
theorem dX0_productForDivisors_28 : decode cX0_productForDivisors 28 = .ok (.lreturn, 1) := wtX0_productForDivisors_24.2.2.1
theorem wtX0_timesAllOf_0 : dwcj cX0_timesAllOf 0 [(0, .lload_n 0, 1), (1, .lstore_n 3, 1), (2, .iload_n 2, 1), (3, .invokestatic 15, 3), (6, .lstore 5, 2), (8, .lload 5, 2), (10, .iload_n 2, 1), (11, .iconst 1, 1), (12, .iadd, 1), (13, .invokestatic 15, 3), (16, .lcmp, 1), (17, .ifCond .ge 27, 3), (20, .lload 5, 2), (22, .invokestatic 25, 3)] := dw_all (l := [30, 66, 28, 184, 0, 15, 55, 5, 22, 5, 28, 4, 96, 184, 0, 15, 148, 156, 0, 27, 22, 5, 184, 0, 25]) (by decide +kernel)
theorem dX0_timesAllOf_0 : decode cX0_timesAllOf 0 = .ok (.lload_n 0, 1) := wtX0_timesAllOf_0.1
theorem dX0_timesAllOf_1 : decode cX0_timesAllOf 1 = .ok (.lstore_n 3, 1) := wtX0_timesAllOf_0.2.1
theorem dX0_timesAllOf_2 : decode cX0_timesAllOf 2 = .ok (.iload_n 2, 1) := wtX0_timesAllOf_0.2.2.1
theorem dX0_timesAllOf_3 : decode cX0_timesAllOf 3 = .ok (.invokestatic 15, 3) := wtX0_timesAllOf_0.2.2.2.1
theorem dX0_timesAllOf_6 : decode cX0_timesAllOf 6 = .ok (.lstore 5, 2) := wtX0_timesAllOf_0.2.2.2.2.1
theorem dX0_timesAllOf_8 : decode cX0_timesAllOf 8 = .ok (.lload 5, 2) := wtX0_timesAllOf_0.2.2.2.2.2.1
theorem dX0_timesAllOf_10 : decode cX0_timesAllOf 10 = .ok (.iload_n 2, 1) := wtX0_timesAllOf_0.2.2.2.2.2.2.1
theorem dX0_timesAllOf_11 : decode cX0_timesAllOf 11 = .ok (.iconst 1, 1) := wtX0_timesAllOf_0.2.2.2.2.2.2.2.1
theorem dX0_timesAllOf_12 : decode cX0_timesAllOf 12 = .ok (.iadd, 1) := wtX0_timesAllOf_0.2.2.2.2.2.2.2.2.1
theorem dX0_timesAllOf_13 : decode cX0_timesAllOf 13 = .ok (.invokestatic 15, 3) := wtX0_timesAllOf_0.2.2.2.2.2.2.2.2.2.1
theorem dX0_timesAllOf_16 : decode cX0_timesAllOf 16 = .ok (.lcmp, 1) := wtX0_timesAllOf_0.2.2.2.2.2.2.2.2.2.2.1
theorem dX0_timesAllOf_17 : decode cX0_timesAllOf 17 = .ok (.ifCond .ge 27, 3) := wtX0_timesAllOf_0.2.2.2.2.2.2.2.2.2.2.2.1
theorem dX0_timesAllOf_20 : decode cX0_timesAllOf 20 = .ok (.lload 5, 2) := wtX0_timesAllOf_0.2.2.2.2.2.2.2.2.2.2.2.2.1
theorem dX0_timesAllOf_22 : decode cX0_timesAllOf 22 = .ok (.invokestatic 25, 3) := wtX0_timesAllOf_0.2.2.2.2.2.2.2.2.2.2.2.2.2.1
theorem wtX0_timesAllOf_25 : dwcj cX0_timesAllOf 25 [(0, .ifCond .eq 10, 3), (3, .lload_n 3, 1), (4, .lload 5, 2), (6, .invokestatic 35, 3), (9, .lstore_n 3, 1), (10, .lload 5, 2), (12, .lconst 1, 1), (13, .ladd, 1), (14, .lstore 5, 2), (16, .goto (-33), 3), (19, .lload_n 3, 1), (20, .lreturn, 1)] := dw_all (l := [153, 0, 10, 33, 22, 5, 184, 0, 35, 66, 22, 5, 10, 97, 55, 5, 167, 255, 223, 33, 173]) (by decide +kernel)
theorem dX0_timesAllOf_25 : decode cX0_timesAllOf 25 = .ok (.ifCond .eq 10, 3) := wtX0_timesAllOf_25.1
theorem dX0_timesAllOf_28 : decode cX0_timesAllOf 28 = .ok (.lload_n 3, 1) := wtX0_timesAllOf_25.2.1
theorem dX0_timesAllOf_29 : decode cX0_timesAllOf 29 = .ok (.lload 5, 2) := wtX0_timesAllOf_25.2.2.1
theorem dX0_timesAllOf_31 : decode cX0_timesAllOf 31 = .ok (.invokestatic 35, 3) := wtX0_timesAllOf_25.2.2.2.1
theorem dX0_timesAllOf_34 : decode cX0_timesAllOf 34 = .ok (.lstore_n 3, 1) := wtX0_timesAllOf_25.2.2.2.2.1
theorem dX0_timesAllOf_35 : decode cX0_timesAllOf 35 = .ok (.lload 5, 2) := wtX0_timesAllOf_25.2.2.2.2.2.1
theorem dX0_timesAllOf_37 : decode cX0_timesAllOf 37 = .ok (.lconst 1, 1) := wtX0_timesAllOf_25.2.2.2.2.2.2.1
theorem dX0_timesAllOf_38 : decode cX0_timesAllOf 38 = .ok (.ladd, 1) := wtX0_timesAllOf_25.2.2.2.2.2.2.2.1
theorem dX0_timesAllOf_39 : decode cX0_timesAllOf 39 = .ok (.lstore 5, 2) := wtX0_timesAllOf_25.2.2.2.2.2.2.2.2.1
theorem dX0_timesAllOf_41 : decode cX0_timesAllOf 41 = .ok (.goto (-33), 3) := wtX0_timesAllOf_25.2.2.2.2.2.2.2.2.2.1
theorem dX0_timesAllOf_44 : decode cX0_timesAllOf 44 = .ok (.lload_n 3, 1) := wtX0_timesAllOf_25.2.2.2.2.2.2.2.2.2.2.1
theorem dX0_timesAllOf_45 : decode cX0_timesAllOf 45 = .ok (.lreturn, 1) := wtX0_timesAllOf_25.2.2.2.2.2.2.2.2.2.2.2.1
theorem wtX0_factorsOf_0 : dwcj cX0_factorsOf 0 [(0, .new 39, 3), (3, .dup, 1), (4, .invokespecial 41, 3), (7, .astore_n 2, 1), (8, .lload_n 0, 1), (9, .lstore_n 3, 1), (10, .iconst 2, 1), (11, .istore 5, 2), (13, .iload 5, 2), (15, .sipush 512, 3), (18, .if_icmp .ge 70, 3), (21, .iconst 0, 1), (22, .istore 6, 2)] := dw_all (l := [187, 0, 39, 89, 183, 0, 41, 77, 30, 66, 5, 54, 5, 21, 5, 17, 2, 0, 162, 0, 70, 3, 54, 6]) (by decide +kernel)
theorem dX0_factorsOf_0 : decode cX0_factorsOf 0 = .ok (.new 39, 3) := wtX0_factorsOf_0.1
theorem dX0_factorsOf_3 : decode cX0_factorsOf 3 = .ok (.dup, 1) := wtX0_factorsOf_0.2.1
theorem dX0_factorsOf_4 : decode cX0_factorsOf 4 = .ok (.invokespecial 41, 3) := wtX0_factorsOf_0.2.2.1
theorem dX0_factorsOf_7 : decode cX0_factorsOf 7 = .ok (.astore_n 2, 1) := wtX0_factorsOf_0.2.2.2.1
theorem dX0_factorsOf_8 : decode cX0_factorsOf 8 = .ok (.lload_n 0, 1) := wtX0_factorsOf_0.2.2.2.2.1
theorem dX0_factorsOf_9 : decode cX0_factorsOf 9 = .ok (.lstore_n 3, 1) := wtX0_factorsOf_0.2.2.2.2.2.1
theorem dX0_factorsOf_10 : decode cX0_factorsOf 10 = .ok (.iconst 2, 1) := wtX0_factorsOf_0.2.2.2.2.2.2.1
theorem dX0_factorsOf_11 : decode cX0_factorsOf 11 = .ok (.istore 5, 2) := wtX0_factorsOf_0.2.2.2.2.2.2.2.1
theorem dX0_factorsOf_13 : decode cX0_factorsOf 13 = .ok (.iload 5, 2) := wtX0_factorsOf_0.2.2.2.2.2.2.2.2.1
theorem dX0_factorsOf_15 : decode cX0_factorsOf 15 = .ok (.sipush 512, 3) := wtX0_factorsOf_0.2.2.2.2.2.2.2.2.2.1
theorem dX0_factorsOf_18 : decode cX0_factorsOf 18 = .ok (.if_icmp .ge 70, 3) := wtX0_factorsOf_0.2.2.2.2.2.2.2.2.2.2.1
theorem dX0_factorsOf_21 : decode cX0_factorsOf 21 = .ok (.iconst 0, 1) := wtX0_factorsOf_0.2.2.2.2.2.2.2.2.2.2.2.1
theorem dX0_factorsOf_22 : decode cX0_factorsOf 22 = .ok (.istore 6, 2) := wtX0_factorsOf_0.2.2.2.2.2.2.2.2.2.2.2.2.1
theorem wtX0_factorsOf_24 : dwcj cX0_factorsOf 24 [(0, .iload 6, 2), (2, .bipush 64, 2), (4, .if_icmp .ge 54, 3), (7, .lload_n 3, 1), (8, .lconst 1, 1), (9, .lcmp, 1), (10, .ifCond .le 48, 3), (13, .iload 5, 2), (15, .i2l, 1), (16, .lload_n 3, 1), (17, .invokestatic 21, 3), (20, .ifCond .eq 38, 3), (23, .aload_n 2, 1)] := dw_all (l := [21, 6, 16, 64, 162, 0, 54, 33, 10, 148, 158, 0, 48, 21, 5, 133, 33, 184, 0, 21, 153, 0, 38, 44]) (by decide +kernel)
theorem dX0_factorsOf_24 : decode cX0_factorsOf 24 = .ok (.iload 6, 2) := wtX0_factorsOf_24.1
theorem dX0_factorsOf_26 : decode cX0_factorsOf 26 = .ok (.bipush 64, 2) := wtX0_factorsOf_24.2.1
theorem dX0_factorsOf_28 : decode cX0_factorsOf 28 = .ok (.if_icmp .ge 54, 3) := wtX0_factorsOf_24.2.2.1
theorem dX0_factorsOf_31 : decode cX0_factorsOf 31 = .ok (.lload_n 3, 1) := wtX0_factorsOf_24.2.2.2.1
theorem dX0_factorsOf_32 : decode cX0_factorsOf 32 = .ok (.lconst 1, 1) := wtX0_factorsOf_24.2.2.2.2.1
theorem dX0_factorsOf_33 : decode cX0_factorsOf 33 = .ok (.lcmp, 1) := wtX0_factorsOf_24.2.2.2.2.2.1
theorem dX0_factorsOf_34 : decode cX0_factorsOf 34 = .ok (.ifCond .le 48, 3) := wtX0_factorsOf_24.2.2.2.2.2.2.1
theorem dX0_factorsOf_37 : decode cX0_factorsOf 37 = .ok (.iload 5, 2) := wtX0_factorsOf_24.2.2.2.2.2.2.2.1
theorem dX0_factorsOf_39 : decode cX0_factorsOf 39 = .ok (.i2l, 1) := wtX0_factorsOf_24.2.2.2.2.2.2.2.2.1
theorem dX0_factorsOf_40 : decode cX0_factorsOf 40 = .ok (.lload_n 3, 1) := wtX0_factorsOf_24.2.2.2.2.2.2.2.2.2.1
theorem dX0_factorsOf_41 : decode cX0_factorsOf 41 = .ok (.invokestatic 21, 3) := wtX0_factorsOf_24.2.2.2.2.2.2.2.2.2.2.1
theorem dX0_factorsOf_44 : decode cX0_factorsOf 44 = .ok (.ifCond .eq 38, 3) := wtX0_factorsOf_24.2.2.2.2.2.2.2.2.2.2.2.1
theorem dX0_factorsOf_47 : decode cX0_factorsOf 47 = .ok (.aload_n 2, 1) := wtX0_factorsOf_24.2.2.2.2.2.2.2.2.2.2.2.2.1
theorem wtX0_factorsOf_48 : dwcj cX0_factorsOf 48 [(0, .invokevirtual 42, 3), (3, .ifCond .le 10, 3), (6, .aload_n 2, 1), (7, .bipush 32, 2), (9, .invokevirtual 46, 3), (12, .pop, 1), (13, .aload_n 2, 1), (14, .iload 5, 2), (16, .invokevirtual 50, 3), (19, .pop, 1), (20, .lload_n 3, 1), (21, .iload 5, 2), (23, .i2l, 1)] := dw_all (l := [182, 0, 42, 158, 0, 10, 44, 16, 32, 182, 0, 46, 87, 44, 21, 5, 182, 0, 50, 87, 33, 21, 5, 133]) (by decide +kernel)
theorem dX0_factorsOf_48 : decode cX0_factorsOf 48 = .ok (.invokevirtual 42, 3) := wtX0_factorsOf_48.1
theorem dX0_factorsOf_51 : decode cX0_factorsOf 51 = .ok (.ifCond .le 10, 3) := wtX0_factorsOf_48.2.1
theorem dX0_factorsOf_54 : decode cX0_factorsOf 54 = .ok (.aload_n 2, 1) := wtX0_factorsOf_48.2.2.1
theorem dX0_factorsOf_55 : decode cX0_factorsOf 55 = .ok (.bipush 32, 2) := wtX0_factorsOf_48.2.2.2.1
theorem dX0_factorsOf_57 : decode cX0_factorsOf 57 = .ok (.invokevirtual 46, 3) := wtX0_factorsOf_48.2.2.2.2.1
theorem dX0_factorsOf_60 : decode cX0_factorsOf 60 = .ok (.pop, 1) := wtX0_factorsOf_48.2.2.2.2.2.1
theorem dX0_factorsOf_61 : decode cX0_factorsOf 61 = .ok (.aload_n 2, 1) := wtX0_factorsOf_48.2.2.2.2.2.2.1
theorem dX0_factorsOf_62 : decode cX0_factorsOf 62 = .ok (.iload 5, 2) := wtX0_factorsOf_48.2.2.2.2.2.2.2.1
theorem dX0_factorsOf_64 : decode cX0_factorsOf 64 = .ok (.invokevirtual 50, 3) := wtX0_factorsOf_48.2.2.2.2.2.2.2.2.1
theorem dX0_factorsOf_67 : decode cX0_factorsOf 67 = .ok (.pop, 1) := wtX0_factorsOf_48.2.2.2.2.2.2.2.2.2.1
theorem dX0_factorsOf_68 : decode cX0_factorsOf 68 = .ok (.lload_n 3, 1) := wtX0_factorsOf_48.2.2.2.2.2.2.2.2.2.2.1
theorem dX0_factorsOf_69 : decode cX0_factorsOf 69 = .ok (.iload 5, 2) := wtX0_factorsOf_48.2.2.2.2.2.2.2.2.2.2.2.1
theorem dX0_factorsOf_71 : decode cX0_factorsOf 71 = .ok (.i2l, 1) := wtX0_factorsOf_48.2.2.2.2.2.2.2.2.2.2.2.2.1
theorem wtX0_factorsOf_72 : dwcj cX0_factorsOf 72 [(0, .invokestatic 53, 3), (3, .lstore_n 3, 1), (4, .iinc 6 1, 3), (7, .goto (-55), 3), (10, .iinc 5 1, 3), (13, .goto (-72), 3), (16, .aload_n 2, 1), (17, .invokevirtual 56, 3), (20, .areturn, 1)] := dw_all (l := [184, 0, 53, 66, 132, 6, 1, 167, 255, 201, 132, 5, 1, 167, 255, 184, 44, 182, 0, 56, 176]) (by decide +kernel)
theorem dX0_factorsOf_72 : decode cX0_factorsOf 72 = .ok (.invokestatic 53, 3) := wtX0_factorsOf_72.1
theorem dX0_factorsOf_75 : decode cX0_factorsOf 75 = .ok (.lstore_n 3, 1) := wtX0_factorsOf_72.2.1
theorem dX0_factorsOf_76 : decode cX0_factorsOf 76 = .ok (.iinc 6 1, 3) := wtX0_factorsOf_72.2.2.1
theorem dX0_factorsOf_79 : decode cX0_factorsOf 79 = .ok (.goto (-55), 3) := wtX0_factorsOf_72.2.2.2.1
theorem dX0_factorsOf_82 : decode cX0_factorsOf 82 = .ok (.iinc 5 1, 3) := wtX0_factorsOf_72.2.2.2.2.1
theorem dX0_factorsOf_85 : decode cX0_factorsOf 85 = .ok (.goto (-72), 3) := wtX0_factorsOf_72.2.2.2.2.2.1
theorem dX0_factorsOf_88 : decode cX0_factorsOf 88 = .ok (.aload_n 2, 1) := wtX0_factorsOf_72.2.2.2.2.2.2.1
theorem dX0_factorsOf_89 : decode cX0_factorsOf 89 = .ok (.invokevirtual 56, 3) := wtX0_factorsOf_72.2.2.2.2.2.2.2.1
theorem dX0_factorsOf_92 : decode cX0_factorsOf 92 = .ok (.areturn, 1) := wtX0_factorsOf_72.2.2.2.2.2.2.2.2.1
theorem wtX0_periodOf_0 : dwcj cX0_periodOf 0 [(0, .lconst 1, 1), (1, .lstore_n 2, 1), (2, .iconst 1, 1), (3, .istore 4, 2), (5, .iload 4, 2), (7, .sipush 255, 3), (10, .if_icmp .gt 26, 3), (13, .lload_n 2, 1), (14, .iconst 1, 1), (15, .lshl, 1), (16, .lload_n 0, 1), (17, .invokestatic 60, 3), (20, .lstore_n 2, 1), (21, .lload_n 2, 1), (22, .lconst 1, 1), (23, .lcmp, 1)] := dw_all (l := [10, 65, 4, 54, 4, 21, 4, 17, 0, 255, 163, 0, 26, 32, 4, 121, 30, 184, 0, 60, 65, 32, 10, 148]) (by decide +kernel)
theorem dX0_periodOf_0 : decode cX0_periodOf 0 = .ok (.lconst 1, 1) := wtX0_periodOf_0.1
theorem dX0_periodOf_1 : decode cX0_periodOf 1 = .ok (.lstore_n 2, 1) := wtX0_periodOf_0.2.1
theorem dX0_periodOf_2 : decode cX0_periodOf 2 = .ok (.iconst 1, 1) := wtX0_periodOf_0.2.2.1
theorem dX0_periodOf_3 : decode cX0_periodOf 3 = .ok (.istore 4, 2) := wtX0_periodOf_0.2.2.2.1
theorem dX0_periodOf_5 : decode cX0_periodOf 5 = .ok (.iload 4, 2) := wtX0_periodOf_0.2.2.2.2.1
theorem dX0_periodOf_7 : decode cX0_periodOf 7 = .ok (.sipush 255, 3) := wtX0_periodOf_0.2.2.2.2.2.1
theorem dX0_periodOf_10 : decode cX0_periodOf 10 = .ok (.if_icmp .gt 26, 3) := wtX0_periodOf_0.2.2.2.2.2.2.1
theorem dX0_periodOf_13 : decode cX0_periodOf 13 = .ok (.lload_n 2, 1) := wtX0_periodOf_0.2.2.2.2.2.2.2.1
theorem dX0_periodOf_14 : decode cX0_periodOf 14 = .ok (.iconst 1, 1) := wtX0_periodOf_0.2.2.2.2.2.2.2.2.1
theorem dX0_periodOf_15 : decode cX0_periodOf 15 = .ok (.lshl, 1) := wtX0_periodOf_0.2.2.2.2.2.2.2.2.2.1
theorem dX0_periodOf_16 : decode cX0_periodOf 16 = .ok (.lload_n 0, 1) := wtX0_periodOf_0.2.2.2.2.2.2.2.2.2.2.1
theorem dX0_periodOf_17 : decode cX0_periodOf 17 = .ok (.invokestatic 60, 3) := wtX0_periodOf_0.2.2.2.2.2.2.2.2.2.2.2.1
theorem dX0_periodOf_20 : decode cX0_periodOf 20 = .ok (.lstore_n 2, 1) := wtX0_periodOf_0.2.2.2.2.2.2.2.2.2.2.2.2.1
theorem dX0_periodOf_21 : decode cX0_periodOf 21 = .ok (.lload_n 2, 1) := wtX0_periodOf_0.2.2.2.2.2.2.2.2.2.2.2.2.2.1
theorem dX0_periodOf_22 : decode cX0_periodOf 22 = .ok (.lconst 1, 1) := wtX0_periodOf_0.2.2.2.2.2.2.2.2.2.2.2.2.2.2.1
theorem dX0_periodOf_23 : decode cX0_periodOf 23 = .ok (.lcmp, 1) := wtX0_periodOf_0.2.2.2.2.2.2.2.2.2.2.2.2.2.2.2.1
theorem wtX0_periodOf_24 : dwcj cX0_periodOf 24 [(0, .ifCond .ne 6, 3), (3, .iload 4, 2), (5, .ireturn, 1), (6, .iinc 4 1, 3), (9, .goto (-28), 3), (12, .iconst (-1), 1), (13, .ireturn, 1)] := dw_all (l := [154, 0, 6, 21, 4, 172, 132, 4, 1, 167, 255, 228, 2, 172]) (by decide +kernel)
theorem dX0_periodOf_24 : decode cX0_periodOf 24 = .ok (.ifCond .ne 6, 3) := wtX0_periodOf_24.1
theorem dX0_periodOf_27 : decode cX0_periodOf 27 = .ok (.iload 4, 2) := wtX0_periodOf_24.2.1
theorem dX0_periodOf_29 : decode cX0_periodOf 29 = .ok (.ireturn, 1) := wtX0_periodOf_24.2.2.1
theorem dX0_periodOf_30 : decode cX0_periodOf 30 = .ok (.iinc 4 1, 3) := wtX0_periodOf_24.2.2.2.1
theorem dX0_periodOf_33 : decode cX0_periodOf 33 = .ok (.goto (-28), 3) := wtX0_periodOf_24.2.2.2.2.1
theorem dX0_periodOf_36 : decode cX0_periodOf 36 = .ok (.iconst (-1), 1) := wtX0_periodOf_24.2.2.2.2.2.1
theorem dX0_periodOf_37 : decode cX0_periodOf 37 = .ok (.ireturn, 1) := wtX0_periodOf_24.2.2.2.2.2.2.1
theorem wtX0_formulaFor_0 : dwcj cX0_formulaFor 0 [(0, .iconst 0, 1), (1, .istore_n 1, 1), (2, .iconst 1, 1), (3, .istore_n 2, 1), (4, .iload_n 2, 1), (5, .iload_n 0, 1), (6, .if_icmp .gt 28, 3), (9, .iload_n 0, 1), (10, .iload_n 2, 1), (11, .irem, 1), (12, .ifCond .ne 16, 3), (15, .iload_n 1, 1), (16, .iload_n 2, 1), (17, .invokestatic 63, 3), (20, .iconst 1, 1), (21, .iload_n 0, 1), (22, .iload_n 2, 1), (23, .idiv, 1)] := dw_all (l := [3, 60, 4, 61, 28, 26, 163, 0, 28, 26, 28, 112, 154, 0, 16, 27, 28, 184, 0, 63, 4, 26, 28, 108]) (by decide +kernel)
theorem dX0_formulaFor_0 : decode cX0_formulaFor 0 = .ok (.iconst 0, 1) := wtX0_formulaFor_0.1
theorem dX0_formulaFor_1 : decode cX0_formulaFor 1 = .ok (.istore_n 1, 1) := wtX0_formulaFor_0.2.1
theorem dX0_formulaFor_2 : decode cX0_formulaFor 2 = .ok (.iconst 1, 1) := wtX0_formulaFor_0.2.2.1
theorem dX0_formulaFor_3 : decode cX0_formulaFor 3 = .ok (.istore_n 2, 1) := wtX0_formulaFor_0.2.2.2.1
theorem dX0_formulaFor_4 : decode cX0_formulaFor 4 = .ok (.iload_n 2, 1) := wtX0_formulaFor_0.2.2.2.2.1
theorem dX0_formulaFor_5 : decode cX0_formulaFor 5 = .ok (.iload_n 0, 1) := wtX0_formulaFor_0.2.2.2.2.2.1
theorem dX0_formulaFor_6 : decode cX0_formulaFor 6 = .ok (.if_icmp .gt 28, 3) := wtX0_formulaFor_0.2.2.2.2.2.2.1
theorem dX0_formulaFor_9 : decode cX0_formulaFor 9 = .ok (.iload_n 0, 1) := wtX0_formulaFor_0.2.2.2.2.2.2.2.1
theorem dX0_formulaFor_10 : decode cX0_formulaFor 10 = .ok (.iload_n 2, 1) := wtX0_formulaFor_0.2.2.2.2.2.2.2.2.1
theorem dX0_formulaFor_11 : decode cX0_formulaFor 11 = .ok (.irem, 1) := wtX0_formulaFor_0.2.2.2.2.2.2.2.2.2.1
theorem dX0_formulaFor_12 : decode cX0_formulaFor 12 = .ok (.ifCond .ne 16, 3) := wtX0_formulaFor_0.2.2.2.2.2.2.2.2.2.2.1
theorem dX0_formulaFor_15 : decode cX0_formulaFor 15 = .ok (.iload_n 1, 1) := wtX0_formulaFor_0.2.2.2.2.2.2.2.2.2.2.2.1
theorem dX0_formulaFor_16 : decode cX0_formulaFor 16 = .ok (.iload_n 2, 1) := wtX0_formulaFor_0.2.2.2.2.2.2.2.2.2.2.2.2.1
theorem dX0_formulaFor_17 : decode cX0_formulaFor 17 = .ok (.invokestatic 63, 3) := wtX0_formulaFor_0.2.2.2.2.2.2.2.2.2.2.2.2.2.1
theorem dX0_formulaFor_20 : decode cX0_formulaFor 20 = .ok (.iconst 1, 1) := wtX0_formulaFor_0.2.2.2.2.2.2.2.2.2.2.2.2.2.2.1
theorem dX0_formulaFor_21 : decode cX0_formulaFor 21 = .ok (.iload_n 0, 1) := wtX0_formulaFor_0.2.2.2.2.2.2.2.2.2.2.2.2.2.2.2.1
theorem dX0_formulaFor_22 : decode cX0_formulaFor 22 = .ok (.iload_n 2, 1) := wtX0_formulaFor_0.2.2.2.2.2.2.2.2.2.2.2.2.2.2.2.2.1
theorem dX0_formulaFor_23 : decode cX0_formulaFor 23 = .ok (.idiv, 1) := wtX0_formulaFor_0.2.2.2.2.2.2.2.2.2.2.2.2.2.2.2.2.2.1
theorem wtX0_formulaFor_24 : dwcj cX0_formulaFor 24 [(0, .ishl, 1), (1, .imul, 1), (2, .iadd, 1), (3, .istore_n 1, 1), (4, .iinc 2 1, 3), (7, .goto (-27), 3), (10, .iload_n 0, 1), (11, .ifCond .le 9, 3), (14, .iload_n 1, 1), (15, .iload_n 0, 1), (16, .idiv, 1), (17, .goto 4, 3), (20, .iconst 0, 1), (21, .ireturn, 1)] := dw_all (l := [120, 104, 96, 60, 132, 2, 1, 167, 255, 229, 26, 158, 0, 9, 27, 26, 108, 167, 0, 4, 3, 172]) (by decide +kernel)
theorem dX0_formulaFor_24 : decode cX0_formulaFor 24 = .ok (.ishl, 1) := wtX0_formulaFor_24.1
theorem dX0_formulaFor_25 : decode cX0_formulaFor 25 = .ok (.imul, 1) := wtX0_formulaFor_24.2.1
theorem dX0_formulaFor_26 : decode cX0_formulaFor 26 = .ok (.iadd, 1) := wtX0_formulaFor_24.2.2.1
theorem dX0_formulaFor_27 : decode cX0_formulaFor 27 = .ok (.istore_n 1, 1) := wtX0_formulaFor_24.2.2.2.1
theorem dX0_formulaFor_28 : decode cX0_formulaFor 28 = .ok (.iinc 2 1, 3) := wtX0_formulaFor_24.2.2.2.2.1
theorem dX0_formulaFor_31 : decode cX0_formulaFor 31 = .ok (.goto (-27), 3) := wtX0_formulaFor_24.2.2.2.2.2.1
theorem dX0_formulaFor_34 : decode cX0_formulaFor 34 = .ok (.iload_n 0, 1) := wtX0_formulaFor_24.2.2.2.2.2.2.1
theorem dX0_formulaFor_35 : decode cX0_formulaFor 35 = .ok (.ifCond .le 9, 3) := wtX0_formulaFor_24.2.2.2.2.2.2.2.1
theorem dX0_formulaFor_38 : decode cX0_formulaFor 38 = .ok (.iload_n 1, 1) := wtX0_formulaFor_24.2.2.2.2.2.2.2.2.1
theorem dX0_formulaFor_39 : decode cX0_formulaFor 39 = .ok (.iload_n 0, 1) := wtX0_formulaFor_24.2.2.2.2.2.2.2.2.2.1
theorem dX0_formulaFor_40 : decode cX0_formulaFor 40 = .ok (.idiv, 1) := wtX0_formulaFor_24.2.2.2.2.2.2.2.2.2.2.1
theorem dX0_formulaFor_41 : decode cX0_formulaFor 41 = .ok (.goto 4, 3) := wtX0_formulaFor_24.2.2.2.2.2.2.2.2.2.2.2.1
theorem dX0_formulaFor_44 : decode cX0_formulaFor 44 = .ok (.iconst 0, 1) := wtX0_formulaFor_24.2.2.2.2.2.2.2.2.2.2.2.2.1
theorem dX0_formulaFor_45 : decode cX0_formulaFor 45 = .ok (.ireturn, 1) := wtX0_formulaFor_24.2.2.2.2.2.2.2.2.2.2.2.2.2.1
theorem wtX0_signOf_0 : dwcj cX0_signOf 0 [(0, .iload_n 0, 1)] := dw_all (l := [26]) (by decide +kernel)
theorem dX0_signOf_0 : decode cX0_signOf 0 = .ok (.iload_n 0, 1) := wtX0_signOf_0.1
theorem dX0_signOf_1 : decode cX0_signOf 1 = .ok (.tableswitch 47 1 7 #[43, 45, 45, 47, 45, 43, 45], 43) := by decide +kernel
theorem wtX0_signOf_44 : dwcj cX0_signOf 44 [(0, .iconst 1, 1), (1, .ireturn, 1), (2, .iconst (-1), 1), (3, .ireturn, 1), (4, .iconst 0, 1), (5, .ireturn, 1)] := dw_all (l := [4, 172, 2, 172, 3, 172]) (by decide +kernel)
theorem dX0_signOf_44 : decode cX0_signOf 44 = .ok (.iconst 1, 1) := wtX0_signOf_44.1
theorem dX0_signOf_45 : decode cX0_signOf 45 = .ok (.ireturn, 1) := wtX0_signOf_44.2.1
theorem dX0_signOf_46 : decode cX0_signOf 46 = .ok (.iconst (-1), 1) := wtX0_signOf_44.2.2.1
theorem dX0_signOf_47 : decode cX0_signOf 47 = .ok (.ireturn, 1) := wtX0_signOf_44.2.2.2.1
theorem dX0_signOf_48 : decode cX0_signOf 48 = .ok (.iconst 0, 1) := wtX0_signOf_44.2.2.2.2.1
theorem dX0_signOf_49 : decode cX0_signOf 49 = .ok (.ireturn, 1) := wtX0_signOf_44.2.2.2.2.2.1
theorem wtX1_single_0 : dwcj cX1_single 0 [(0, .lconst 1, 1), (1, .iload_n 0, 1), (2, .lshl, 1), (3, .lreturn, 1)] := dw_all (l := [10, 26, 121, 173]) (by decide +kernel)
theorem dX1_single_0 : decode cX1_single 0 = .ok (.lconst 1, 1) := wtX1_single_0.1
theorem dX1_single_1 : decode cX1_single 1 = .ok (.iload_n 0, 1) := wtX1_single_0.2.1
theorem dX1_single_2 : decode cX1_single 2 = .ok (.lshl, 1) := wtX1_single_0.2.2.1
theorem dX1_single_3 : decode cX1_single 3 = .ok (.lreturn, 1) := wtX1_single_0.2.2.2.1
theorem wtX1_hasOne_0 : dwcj cX1_hasOne 0 [(0, .iload_n 2, 1), (1, .ifCond .lt 23, 3), (4, .iload_n 2, 1), (5, .bipush 64, 2), (7, .if_icmp .ge 17, 3), (10, .lload_n 0, 1), (11, .iload_n 2, 1), (12, .lushr, 1), (13, .lconst 1, 1), (14, .land, 1), (15, .lconst 1, 1), (16, .lcmp, 1), (17, .ifCond .ne 7, 3), (20, .iconst 1, 1), (21, .goto 4, 3)] := dw_all (l := [28, 155, 0, 23, 28, 16, 64, 162, 0, 17, 30, 28, 125, 10, 127, 10, 148, 154, 0, 7, 4, 167, 0, 4]) (by decide +kernel)
theorem dX1_hasOne_0 : decode cX1_hasOne 0 = .ok (.iload_n 2, 1) := wtX1_hasOne_0.1
theorem dX1_hasOne_1 : decode cX1_hasOne 1 = .ok (.ifCond .lt 23, 3) := wtX1_hasOne_0.2.1
theorem dX1_hasOne_4 : decode cX1_hasOne 4 = .ok (.iload_n 2, 1) := wtX1_hasOne_0.2.2.1
theorem dX1_hasOne_5 : decode cX1_hasOne 5 = .ok (.bipush 64, 2) := wtX1_hasOne_0.2.2.2.1
theorem dX1_hasOne_7 : decode cX1_hasOne 7 = .ok (.if_icmp .ge 17, 3) := wtX1_hasOne_0.2.2.2.2.1
theorem dX1_hasOne_10 : decode cX1_hasOne 10 = .ok (.lload_n 0, 1) := wtX1_hasOne_0.2.2.2.2.2.1
theorem dX1_hasOne_11 : decode cX1_hasOne 11 = .ok (.iload_n 2, 1) := wtX1_hasOne_0.2.2.2.2.2.2.1
theorem dX1_hasOne_12 : decode cX1_hasOne 12 = .ok (.lushr, 1) := wtX1_hasOne_0.2.2.2.2.2.2.2.1
theorem dX1_hasOne_13 : decode cX1_hasOne 13 = .ok (.lconst 1, 1) := wtX1_hasOne_0.2.2.2.2.2.2.2.2.1
theorem dX1_hasOne_14 : decode cX1_hasOne 14 = .ok (.land, 1) := wtX1_hasOne_0.2.2.2.2.2.2.2.2.2.1
theorem dX1_hasOne_15 : decode cX1_hasOne 15 = .ok (.lconst 1, 1) := wtX1_hasOne_0.2.2.2.2.2.2.2.2.2.2.1
theorem dX1_hasOne_16 : decode cX1_hasOne 16 = .ok (.lcmp, 1) := wtX1_hasOne_0.2.2.2.2.2.2.2.2.2.2.2.1
theorem dX1_hasOne_17 : decode cX1_hasOne 17 = .ok (.ifCond .ne 7, 3) := wtX1_hasOne_0.2.2.2.2.2.2.2.2.2.2.2.2.1
theorem dX1_hasOne_20 : decode cX1_hasOne 20 = .ok (.iconst 1, 1) := wtX1_hasOne_0.2.2.2.2.2.2.2.2.2.2.2.2.2.1
theorem dX1_hasOne_21 : decode cX1_hasOne 21 = .ok (.goto 4, 3) := wtX1_hasOne_0.2.2.2.2.2.2.2.2.2.2.2.2.2.2.1
theorem wtX1_hasOne_24 : dwcj cX1_hasOne 24 [(0, .iconst 0, 1), (1, .ireturn, 1)] := dw_all (l := [3, 172]) (by decide +kernel)
theorem dX1_hasOne_24 : decode cX1_hasOne 24 = .ok (.iconst 0, 1) := wtX1_hasOne_24.1
theorem dX1_hasOne_25 : decode cX1_hasOne 25 = .ok (.ireturn, 1) := wtX1_hasOne_24.2.1
theorem wtX1_topPlace_0 : dwcj cX1_topPlace 0 [(0, .iconst (-1), 1), (1, .istore_n 2, 1), (2, .iconst 0, 1), (3, .istore_n 3, 1), (4, .iload_n 3, 1), (5, .bipush 64, 2), (7, .if_icmp .ge 19, 3), (10, .lload_n 0, 1), (11, .iload_n 3, 1), (12, .lushr, 1), (13, .lconst 0, 1), (14, .lcmp, 1), (15, .ifCond .eq 11, 3), (18, .iload_n 3, 1), (19, .istore_n 2, 1), (20, .iinc 3 1, 3), (23, .goto (-19), 3)] := dw_all (l := [2, 61, 3, 62, 29, 16, 64, 162, 0, 19, 30, 29, 125, 9, 148, 153, 0, 11, 29, 61, 132, 3, 1, 167, 255, 237]) (by decide +kernel)
theorem dX1_topPlace_0 : decode cX1_topPlace 0 = .ok (.iconst (-1), 1) := wtX1_topPlace_0.1
theorem dX1_topPlace_1 : decode cX1_topPlace 1 = .ok (.istore_n 2, 1) := wtX1_topPlace_0.2.1
theorem dX1_topPlace_2 : decode cX1_topPlace 2 = .ok (.iconst 0, 1) := wtX1_topPlace_0.2.2.1
theorem dX1_topPlace_3 : decode cX1_topPlace 3 = .ok (.istore_n 3, 1) := wtX1_topPlace_0.2.2.2.1
theorem dX1_topPlace_4 : decode cX1_topPlace 4 = .ok (.iload_n 3, 1) := wtX1_topPlace_0.2.2.2.2.1
theorem dX1_topPlace_5 : decode cX1_topPlace 5 = .ok (.bipush 64, 2) := wtX1_topPlace_0.2.2.2.2.2.1
theorem dX1_topPlace_7 : decode cX1_topPlace 7 = .ok (.if_icmp .ge 19, 3) := wtX1_topPlace_0.2.2.2.2.2.2.1
theorem dX1_topPlace_10 : decode cX1_topPlace 10 = .ok (.lload_n 0, 1) := wtX1_topPlace_0.2.2.2.2.2.2.2.1
theorem dX1_topPlace_11 : decode cX1_topPlace 11 = .ok (.iload_n 3, 1) := wtX1_topPlace_0.2.2.2.2.2.2.2.2.1
theorem dX1_topPlace_12 : decode cX1_topPlace 12 = .ok (.lushr, 1) := wtX1_topPlace_0.2.2.2.2.2.2.2.2.2.1
theorem dX1_topPlace_13 : decode cX1_topPlace 13 = .ok (.lconst 0, 1) := wtX1_topPlace_0.2.2.2.2.2.2.2.2.2.2.1
theorem dX1_topPlace_14 : decode cX1_topPlace 14 = .ok (.lcmp, 1) := wtX1_topPlace_0.2.2.2.2.2.2.2.2.2.2.2.1
theorem dX1_topPlace_15 : decode cX1_topPlace 15 = .ok (.ifCond .eq 11, 3) := wtX1_topPlace_0.2.2.2.2.2.2.2.2.2.2.2.2.1
theorem dX1_topPlace_18 : decode cX1_topPlace 18 = .ok (.iload_n 3, 1) := wtX1_topPlace_0.2.2.2.2.2.2.2.2.2.2.2.2.2.1
theorem dX1_topPlace_19 : decode cX1_topPlace 19 = .ok (.istore_n 2, 1) := wtX1_topPlace_0.2.2.2.2.2.2.2.2.2.2.2.2.2.2.1
theorem dX1_topPlace_20 : decode cX1_topPlace 20 = .ok (.iinc 3 1, 3) := wtX1_topPlace_0.2.2.2.2.2.2.2.2.2.2.2.2.2.2.2.1
theorem dX1_topPlace_23 : decode cX1_topPlace 23 = .ok (.goto (-19), 3) := wtX1_topPlace_0.2.2.2.2.2.2.2.2.2.2.2.2.2.2.2.2.1
theorem wtX1_topPlace_26 : dwcj cX1_topPlace 26 [(0, .iload_n 2, 1), (1, .ireturn, 1)] := dw_all (l := [28, 172]) (by decide +kernel)
theorem dX1_topPlace_26 : decode cX1_topPlace 26 = .ok (.iload_n 2, 1) := wtX1_topPlace_26.1
theorem dX1_topPlace_27 : decode cX1_topPlace 27 = .ok (.ireturn, 1) := wtX1_topPlace_26.2.1
theorem wtX1_bottomPlace_0 : dwcj cX1_bottomPlace 0 [(0, .iconst 0, 1), (1, .istore_n 2, 1), (2, .iload_n 2, 1), (3, .bipush 64, 2), (5, .if_icmp .ge 19, 3), (8, .lload_n 0, 1), (9, .iload_n 2, 1), (10, .invokestatic 11, 3), (13, .ifCond .eq 5, 3), (16, .iload_n 2, 1), (17, .ireturn, 1), (18, .iinc 2 1, 3), (21, .goto (-19), 3)] := dw_all (l := [3, 61, 28, 16, 64, 162, 0, 19, 30, 28, 184, 0, 11, 153, 0, 5, 28, 172, 132, 2, 1, 167, 255, 237]) (by decide +kernel)
theorem dX1_bottomPlace_0 : decode cX1_bottomPlace 0 = .ok (.iconst 0, 1) := wtX1_bottomPlace_0.1
theorem dX1_bottomPlace_1 : decode cX1_bottomPlace 1 = .ok (.istore_n 2, 1) := wtX1_bottomPlace_0.2.1
theorem dX1_bottomPlace_2 : decode cX1_bottomPlace 2 = .ok (.iload_n 2, 1) := wtX1_bottomPlace_0.2.2.1
theorem dX1_bottomPlace_3 : decode cX1_bottomPlace 3 = .ok (.bipush 64, 2) := wtX1_bottomPlace_0.2.2.2.1
theorem dX1_bottomPlace_5 : decode cX1_bottomPlace 5 = .ok (.if_icmp .ge 19, 3) := wtX1_bottomPlace_0.2.2.2.2.1
theorem dX1_bottomPlace_8 : decode cX1_bottomPlace 8 = .ok (.lload_n 0, 1) := wtX1_bottomPlace_0.2.2.2.2.2.1
theorem dX1_bottomPlace_9 : decode cX1_bottomPlace 9 = .ok (.iload_n 2, 1) := wtX1_bottomPlace_0.2.2.2.2.2.2.1
theorem dX1_bottomPlace_10 : decode cX1_bottomPlace 10 = .ok (.invokestatic 11, 3) := wtX1_bottomPlace_0.2.2.2.2.2.2.2.1
theorem dX1_bottomPlace_13 : decode cX1_bottomPlace 13 = .ok (.ifCond .eq 5, 3) := wtX1_bottomPlace_0.2.2.2.2.2.2.2.2.1
theorem dX1_bottomPlace_16 : decode cX1_bottomPlace 16 = .ok (.iload_n 2, 1) := wtX1_bottomPlace_0.2.2.2.2.2.2.2.2.2.1
theorem dX1_bottomPlace_17 : decode cX1_bottomPlace 17 = .ok (.ireturn, 1) := wtX1_bottomPlace_0.2.2.2.2.2.2.2.2.2.2.1
theorem dX1_bottomPlace_18 : decode cX1_bottomPlace 18 = .ok (.iinc 2 1, 3) := wtX1_bottomPlace_0.2.2.2.2.2.2.2.2.2.2.2.1
theorem dX1_bottomPlace_21 : decode cX1_bottomPlace 21 = .ok (.goto (-19), 3) := wtX1_bottomPlace_0.2.2.2.2.2.2.2.2.2.2.2.2.1
theorem wtX1_bottomPlace_24 : dwcj cX1_bottomPlace 24 [(0, .iconst (-1), 1), (1, .ireturn, 1)] := dw_all (l := [2, 172]) (by decide +kernel)
theorem dX1_bottomPlace_24 : decode cX1_bottomPlace 24 = .ok (.iconst (-1), 1) := wtX1_bottomPlace_24.1
theorem dX1_bottomPlace_25 : decode cX1_bottomPlace 25 = .ok (.ireturn, 1) := wtX1_bottomPlace_24.2.1
theorem wtX1_joined_0 : dwcj cX1_joined 0 [(0, .iload 4, 2)] := dw_all (l := [21, 4]) (by decide +kernel)
theorem dX1_joined_0 : decode cX1_joined 0 = .ok (.iload 4, 2) := wtX1_joined_0.1
theorem dX1_joined_2 : decode cX1_joined 2 = .ok (.tableswitch 38 0 2 #[26, 30, 34], 26) := by decide +kernel
theorem wtX1_joined_28 : dwcj cX1_joined 28 [(0, .lload_n 0, 1), (1, .lload_n 2, 1), (2, .lxor, 1), (3, .lreturn, 1), (4, .lload_n 0, 1), (5, .lload_n 2, 1), (6, .land, 1), (7, .lreturn, 1), (8, .lload_n 0, 1), (9, .lload_n 2, 1), (10, .lor, 1), (11, .lreturn, 1), (12, .lload_n 0, 1), (13, .lload_n 2, 1), (14, .ldc2_w 15, 3), (17, .lxor, 1), (18, .land, 1), (19, .lreturn, 1)] := dw_all (l := [30, 32, 131, 173, 30, 32, 127, 173, 30, 32, 129, 173, 30, 32, 20, 0, 15, 131, 127, 173]) (by decide +kernel)
theorem dX1_joined_28 : decode cX1_joined 28 = .ok (.lload_n 0, 1) := wtX1_joined_28.1
theorem dX1_joined_29 : decode cX1_joined 29 = .ok (.lload_n 2, 1) := wtX1_joined_28.2.1
theorem dX1_joined_30 : decode cX1_joined 30 = .ok (.lxor, 1) := wtX1_joined_28.2.2.1
theorem dX1_joined_31 : decode cX1_joined 31 = .ok (.lreturn, 1) := wtX1_joined_28.2.2.2.1
theorem dX1_joined_32 : decode cX1_joined 32 = .ok (.lload_n 0, 1) := wtX1_joined_28.2.2.2.2.1
theorem dX1_joined_33 : decode cX1_joined 33 = .ok (.lload_n 2, 1) := wtX1_joined_28.2.2.2.2.2.1
theorem dX1_joined_34 : decode cX1_joined 34 = .ok (.land, 1) := wtX1_joined_28.2.2.2.2.2.2.1
theorem dX1_joined_35 : decode cX1_joined 35 = .ok (.lreturn, 1) := wtX1_joined_28.2.2.2.2.2.2.2.1
theorem dX1_joined_36 : decode cX1_joined 36 = .ok (.lload_n 0, 1) := wtX1_joined_28.2.2.2.2.2.2.2.2.1
theorem dX1_joined_37 : decode cX1_joined 37 = .ok (.lload_n 2, 1) := wtX1_joined_28.2.2.2.2.2.2.2.2.2.1
theorem dX1_joined_38 : decode cX1_joined 38 = .ok (.lor, 1) := wtX1_joined_28.2.2.2.2.2.2.2.2.2.2.1
theorem dX1_joined_39 : decode cX1_joined 39 = .ok (.lreturn, 1) := wtX1_joined_28.2.2.2.2.2.2.2.2.2.2.2.1
theorem dX1_joined_40 : decode cX1_joined 40 = .ok (.lload_n 0, 1) := wtX1_joined_28.2.2.2.2.2.2.2.2.2.2.2.2.1
theorem dX1_joined_41 : decode cX1_joined 41 = .ok (.lload_n 2, 1) := wtX1_joined_28.2.2.2.2.2.2.2.2.2.2.2.2.2.1
theorem dX1_joined_42 : decode cX1_joined 42 = .ok (.ldc2_w 15, 3) := wtX1_joined_28.2.2.2.2.2.2.2.2.2.2.2.2.2.2.1
theorem dX1_joined_45 : decode cX1_joined 45 = .ok (.lxor, 1) := wtX1_joined_28.2.2.2.2.2.2.2.2.2.2.2.2.2.2.2.1
theorem dX1_joined_46 : decode cX1_joined 46 = .ok (.land, 1) := wtX1_joined_28.2.2.2.2.2.2.2.2.2.2.2.2.2.2.2.2.1
theorem dX1_joined_47 : decode cX1_joined 47 = .ok (.lreturn, 1) := wtX1_joined_28.2.2.2.2.2.2.2.2.2.2.2.2.2.2.2.2.2.1
theorem wtX1_product_0 : dwcj cX1_product 0 [(0, .lconst 0, 1), (1, .lstore 4, 2), (3, .iconst 0, 1), (4, .istore 6, 2), (6, .iload 6, 2), (8, .bipush 64, 2), (10, .if_icmp .ge 36, 3), (13, .lload_n 2, 1), (14, .iload 6, 2), (16, .lushr, 1), (17, .lconst 0, 1), (18, .lcmp, 1), (19, .ifCond .eq 27, 3), (22, .lload_n 2, 1), (23, .iload 6, 2)] := dw_all (l := [9, 55, 4, 3, 54, 6, 21, 6, 16, 64, 162, 0, 36, 32, 21, 6, 125, 9, 148, 153, 0, 27, 32, 21, 6]) (by decide +kernel)
theorem dX1_product_0 : decode cX1_product 0 = .ok (.lconst 0, 1) := wtX1_product_0.1
theorem dX1_product_1 : decode cX1_product 1 = .ok (.lstore 4, 2) := wtX1_product_0.2.1
theorem dX1_product_3 : decode cX1_product 3 = .ok (.iconst 0, 1) := wtX1_product_0.2.2.1
theorem dX1_product_4 : decode cX1_product 4 = .ok (.istore 6, 2) := wtX1_product_0.2.2.2.1
theorem dX1_product_6 : decode cX1_product 6 = .ok (.iload 6, 2) := wtX1_product_0.2.2.2.2.1
theorem dX1_product_8 : decode cX1_product 8 = .ok (.bipush 64, 2) := wtX1_product_0.2.2.2.2.2.1
theorem dX1_product_10 : decode cX1_product 10 = .ok (.if_icmp .ge 36, 3) := wtX1_product_0.2.2.2.2.2.2.1
theorem dX1_product_13 : decode cX1_product 13 = .ok (.lload_n 2, 1) := wtX1_product_0.2.2.2.2.2.2.2.1
theorem dX1_product_14 : decode cX1_product 14 = .ok (.iload 6, 2) := wtX1_product_0.2.2.2.2.2.2.2.2.1
theorem dX1_product_16 : decode cX1_product 16 = .ok (.lushr, 1) := wtX1_product_0.2.2.2.2.2.2.2.2.2.1
theorem dX1_product_17 : decode cX1_product 17 = .ok (.lconst 0, 1) := wtX1_product_0.2.2.2.2.2.2.2.2.2.2.1
theorem dX1_product_18 : decode cX1_product 18 = .ok (.lcmp, 1) := wtX1_product_0.2.2.2.2.2.2.2.2.2.2.2.1
theorem dX1_product_19 : decode cX1_product 19 = .ok (.ifCond .eq 27, 3) := wtX1_product_0.2.2.2.2.2.2.2.2.2.2.2.2.1
theorem dX1_product_22 : decode cX1_product 22 = .ok (.lload_n 2, 1) := wtX1_product_0.2.2.2.2.2.2.2.2.2.2.2.2.2.1
theorem dX1_product_23 : decode cX1_product 23 = .ok (.iload 6, 2) := wtX1_product_0.2.2.2.2.2.2.2.2.2.2.2.2.2.2.1
theorem wtX1_product_25 : dwcj cX1_product 25 [(0, .invokestatic 11, 3), (3, .ifCond .eq 12, 3), (6, .lload 4, 2), (8, .lload_n 0, 1), (9, .iload 6, 2), (11, .lshl, 1), (12, .lxor, 1), (13, .lstore 4, 2), (15, .iinc 6 1, 3), (18, .goto (-37), 3), (21, .lload 4, 2), (23, .lreturn, 1)] := dw_all (l := [184, 0, 11, 153, 0, 12, 22, 4, 30, 21, 6, 121, 131, 55, 4, 132, 6, 1, 167, 255, 219, 22, 4, 173]) (by decide +kernel)
theorem dX1_product_25 : decode cX1_product 25 = .ok (.invokestatic 11, 3) := wtX1_product_25.1
theorem dX1_product_28 : decode cX1_product 28 = .ok (.ifCond .eq 12, 3) := wtX1_product_25.2.1
theorem dX1_product_31 : decode cX1_product 31 = .ok (.lload 4, 2) := wtX1_product_25.2.2.1
theorem dX1_product_33 : decode cX1_product 33 = .ok (.lload_n 0, 1) := wtX1_product_25.2.2.2.1
theorem dX1_product_34 : decode cX1_product 34 = .ok (.iload 6, 2) := wtX1_product_25.2.2.2.2.1
theorem dX1_product_36 : decode cX1_product 36 = .ok (.lshl, 1) := wtX1_product_25.2.2.2.2.2.1
theorem dX1_product_37 : decode cX1_product 37 = .ok (.lxor, 1) := wtX1_product_25.2.2.2.2.2.2.1
theorem dX1_product_38 : decode cX1_product 38 = .ok (.lstore 4, 2) := wtX1_product_25.2.2.2.2.2.2.2.1
theorem dX1_product_40 : decode cX1_product 40 = .ok (.iinc 6 1, 3) := wtX1_product_25.2.2.2.2.2.2.2.2.1
theorem dX1_product_43 : decode cX1_product 43 = .ok (.goto (-37), 3) := wtX1_product_25.2.2.2.2.2.2.2.2.2.1
theorem dX1_product_46 : decode cX1_product 46 = .ok (.lload 4, 2) := wtX1_product_25.2.2.2.2.2.2.2.2.2.2.1
theorem dX1_product_48 : decode cX1_product 48 = .ok (.lreturn, 1) := wtX1_product_25.2.2.2.2.2.2.2.2.2.2.2.1
theorem wtX1_quotientOf_0 : dwcj cX1_quotientOf 0 [(0, .lload_n 2, 1), (1, .lconst 0, 1), (2, .lcmp, 1), (3, .ifCond .ne 5, 3), (6, .lconst 0, 1), (7, .lreturn, 1), (8, .lload_n 2, 1), (9, .invokestatic 17, 3), (12, .istore 4, 2), (14, .lload_n 0, 1), (15, .lstore 5, 2), (17, .lconst 0, 1), (18, .lstore 7, 2), (20, .lload_n 0, 1), (21, .invokestatic 17, 3)] := dw_all (l := [32, 9, 148, 154, 0, 5, 9, 173, 32, 184, 0, 17, 54, 4, 30, 55, 5, 9, 55, 7, 30, 184, 0, 17]) (by decide +kernel)
theorem dX1_quotientOf_0 : decode cX1_quotientOf 0 = .ok (.lload_n 2, 1) := wtX1_quotientOf_0.1
theorem dX1_quotientOf_1 : decode cX1_quotientOf 1 = .ok (.lconst 0, 1) := wtX1_quotientOf_0.2.1
theorem dX1_quotientOf_2 : decode cX1_quotientOf 2 = .ok (.lcmp, 1) := wtX1_quotientOf_0.2.2.1
theorem dX1_quotientOf_3 : decode cX1_quotientOf 3 = .ok (.ifCond .ne 5, 3) := wtX1_quotientOf_0.2.2.2.1
theorem dX1_quotientOf_6 : decode cX1_quotientOf 6 = .ok (.lconst 0, 1) := wtX1_quotientOf_0.2.2.2.2.1
theorem dX1_quotientOf_7 : decode cX1_quotientOf 7 = .ok (.lreturn, 1) := wtX1_quotientOf_0.2.2.2.2.2.1
theorem dX1_quotientOf_8 : decode cX1_quotientOf 8 = .ok (.lload_n 2, 1) := wtX1_quotientOf_0.2.2.2.2.2.2.1
theorem dX1_quotientOf_9 : decode cX1_quotientOf 9 = .ok (.invokestatic 17, 3) := wtX1_quotientOf_0.2.2.2.2.2.2.2.1
theorem dX1_quotientOf_12 : decode cX1_quotientOf 12 = .ok (.istore 4, 2) := wtX1_quotientOf_0.2.2.2.2.2.2.2.2.1
theorem dX1_quotientOf_14 : decode cX1_quotientOf 14 = .ok (.lload_n 0, 1) := wtX1_quotientOf_0.2.2.2.2.2.2.2.2.2.1
theorem dX1_quotientOf_15 : decode cX1_quotientOf 15 = .ok (.lstore 5, 2) := wtX1_quotientOf_0.2.2.2.2.2.2.2.2.2.2.1
theorem dX1_quotientOf_17 : decode cX1_quotientOf 17 = .ok (.lconst 0, 1) := wtX1_quotientOf_0.2.2.2.2.2.2.2.2.2.2.2.1
theorem dX1_quotientOf_18 : decode cX1_quotientOf 18 = .ok (.lstore 7, 2) := wtX1_quotientOf_0.2.2.2.2.2.2.2.2.2.2.2.2.1
theorem dX1_quotientOf_20 : decode cX1_quotientOf 20 = .ok (.lload_n 0, 1) := wtX1_quotientOf_0.2.2.2.2.2.2.2.2.2.2.2.2.2.1
theorem dX1_quotientOf_21 : decode cX1_quotientOf 21 = .ok (.invokestatic 17, 3) := wtX1_quotientOf_0.2.2.2.2.2.2.2.2.2.2.2.2.2.2.1
theorem wtX1_quotientOf_24 : dwcj cX1_quotientOf 24 [(0, .istore 9, 2), (2, .iload 9, 2), (4, .iload 4, 2), (6, .if_icmp .lt 44, 3), (9, .lload 5, 2), (11, .iload 9, 2), (13, .invokestatic 11, 3), (16, .ifCond .eq 28, 3), (19, .lload 5, 2), (21, .lload_n 2, 1), (22, .iload 9, 2)] := dw_all (l := [54, 9, 21, 9, 21, 4, 161, 0, 44, 22, 5, 21, 9, 184, 0, 11, 153, 0, 28, 22, 5, 32, 21, 9]) (by decide +kernel)
theorem dX1_quotientOf_24 : decode cX1_quotientOf 24 = .ok (.istore 9, 2) := wtX1_quotientOf_24.1
theorem dX1_quotientOf_26 : decode cX1_quotientOf 26 = .ok (.iload 9, 2) := wtX1_quotientOf_24.2.1
theorem dX1_quotientOf_28 : decode cX1_quotientOf 28 = .ok (.iload 4, 2) := wtX1_quotientOf_24.2.2.1
theorem dX1_quotientOf_30 : decode cX1_quotientOf 30 = .ok (.if_icmp .lt 44, 3) := wtX1_quotientOf_24.2.2.2.1
theorem dX1_quotientOf_33 : decode cX1_quotientOf 33 = .ok (.lload 5, 2) := wtX1_quotientOf_24.2.2.2.2.1
theorem dX1_quotientOf_35 : decode cX1_quotientOf 35 = .ok (.iload 9, 2) := wtX1_quotientOf_24.2.2.2.2.2.1
theorem dX1_quotientOf_37 : decode cX1_quotientOf 37 = .ok (.invokestatic 11, 3) := wtX1_quotientOf_24.2.2.2.2.2.2.1
theorem dX1_quotientOf_40 : decode cX1_quotientOf 40 = .ok (.ifCond .eq 28, 3) := wtX1_quotientOf_24.2.2.2.2.2.2.2.1
theorem dX1_quotientOf_43 : decode cX1_quotientOf 43 = .ok (.lload 5, 2) := wtX1_quotientOf_24.2.2.2.2.2.2.2.2.1
theorem dX1_quotientOf_45 : decode cX1_quotientOf 45 = .ok (.lload_n 2, 1) := wtX1_quotientOf_24.2.2.2.2.2.2.2.2.2.1
theorem dX1_quotientOf_46 : decode cX1_quotientOf 46 = .ok (.iload 9, 2) := wtX1_quotientOf_24.2.2.2.2.2.2.2.2.2.2.1
theorem wtX1_quotientOf_48 : dwcj cX1_quotientOf 48 [(0, .iload 4, 2), (2, .isub, 1), (3, .lshl, 1), (4, .lxor, 1), (5, .lstore 5, 2), (7, .lload 7, 2), (9, .iload 9, 2), (11, .iload 4, 2), (13, .isub, 1), (14, .invokestatic 21, 3), (17, .lor, 1), (18, .lstore 7, 2), (20, .iinc 9 (-1), 3), (23, .goto (-45), 3)] := dw_all (l := [21, 4, 100, 121, 131, 55, 5, 22, 7, 21, 9, 21, 4, 100, 184, 0, 21, 129, 55, 7, 132, 9, 255, 167, 255, 211]) (by decide +kernel)
theorem dX1_quotientOf_48 : decode cX1_quotientOf 48 = .ok (.iload 4, 2) := wtX1_quotientOf_48.1
theorem dX1_quotientOf_50 : decode cX1_quotientOf 50 = .ok (.isub, 1) := wtX1_quotientOf_48.2.1
theorem dX1_quotientOf_51 : decode cX1_quotientOf 51 = .ok (.lshl, 1) := wtX1_quotientOf_48.2.2.1
theorem dX1_quotientOf_52 : decode cX1_quotientOf 52 = .ok (.lxor, 1) := wtX1_quotientOf_48.2.2.2.1
theorem dX1_quotientOf_53 : decode cX1_quotientOf 53 = .ok (.lstore 5, 2) := wtX1_quotientOf_48.2.2.2.2.1
theorem dX1_quotientOf_55 : decode cX1_quotientOf 55 = .ok (.lload 7, 2) := wtX1_quotientOf_48.2.2.2.2.2.1
theorem dX1_quotientOf_57 : decode cX1_quotientOf 57 = .ok (.iload 9, 2) := wtX1_quotientOf_48.2.2.2.2.2.2.1
theorem dX1_quotientOf_59 : decode cX1_quotientOf 59 = .ok (.iload 4, 2) := wtX1_quotientOf_48.2.2.2.2.2.2.2.1
theorem dX1_quotientOf_61 : decode cX1_quotientOf 61 = .ok (.isub, 1) := wtX1_quotientOf_48.2.2.2.2.2.2.2.2.1
theorem dX1_quotientOf_62 : decode cX1_quotientOf 62 = .ok (.invokestatic 21, 3) := wtX1_quotientOf_48.2.2.2.2.2.2.2.2.2.1
theorem dX1_quotientOf_65 : decode cX1_quotientOf 65 = .ok (.lor, 1) := wtX1_quotientOf_48.2.2.2.2.2.2.2.2.2.2.1
theorem dX1_quotientOf_66 : decode cX1_quotientOf 66 = .ok (.lstore 7, 2) := wtX1_quotientOf_48.2.2.2.2.2.2.2.2.2.2.2.1
theorem dX1_quotientOf_68 : decode cX1_quotientOf 68 = .ok (.iinc 9 (-1), 3) := wtX1_quotientOf_48.2.2.2.2.2.2.2.2.2.2.2.2.1
theorem dX1_quotientOf_71 : decode cX1_quotientOf 71 = .ok (.goto (-45), 3) := wtX1_quotientOf_48.2.2.2.2.2.2.2.2.2.2.2.2.2.1
theorem wtX1_quotientOf_74 : dwcj cX1_quotientOf 74 [(0, .lload 7, 2), (2, .lreturn, 1)] := dw_all (l := [22, 7, 173]) (by decide +kernel)
theorem dX1_quotientOf_74 : decode cX1_quotientOf 74 = .ok (.lload 7, 2) := wtX1_quotientOf_74.1
theorem dX1_quotientOf_76 : decode cX1_quotientOf 76 = .ok (.lreturn, 1) := wtX1_quotientOf_74.2.1
theorem wtX1_restOf_0 : dwcj cX1_restOf 0 [(0, .lload_n 0, 1), (1, .lload_n 0, 1), (2, .lload_n 2, 1), (3, .invokestatic 25, 3), (6, .lload_n 2, 1), (7, .invokestatic 29, 3), (10, .lxor, 1), (11, .lreturn, 1)] := dw_all (l := [30, 30, 32, 184, 0, 25, 32, 184, 0, 29, 131, 173]) (by decide +kernel)
theorem dX1_restOf_0 : decode cX1_restOf 0 = .ok (.lload_n 0, 1) := wtX1_restOf_0.1
theorem dX1_restOf_1 : decode cX1_restOf 1 = .ok (.lload_n 0, 1) := wtX1_restOf_0.2.1
theorem dX1_restOf_2 : decode cX1_restOf 2 = .ok (.lload_n 2, 1) := wtX1_restOf_0.2.2.1
theorem dX1_restOf_3 : decode cX1_restOf 3 = .ok (.invokestatic 25, 3) := wtX1_restOf_0.2.2.2.1
theorem dX1_restOf_6 : decode cX1_restOf 6 = .ok (.lload_n 2, 1) := wtX1_restOf_0.2.2.2.2.1
theorem dX1_restOf_7 : decode cX1_restOf 7 = .ok (.invokestatic 29, 3) := wtX1_restOf_0.2.2.2.2.2.1
theorem dX1_restOf_10 : decode cX1_restOf 10 = .ok (.lxor, 1) := wtX1_restOf_0.2.2.2.2.2.2.1
theorem dX1_restOf_11 : decode cX1_restOf 11 = .ok (.lreturn, 1) := wtX1_restOf_0.2.2.2.2.2.2.2.1
theorem wtX1_isDivisor_0 : dwcj cX1_isDivisor 0 [(0, .lload_n 2, 1), (1, .lload_n 0, 1), (2, .invokestatic 32, 3), (5, .lconst 0, 1), (6, .lcmp, 1), (7, .ifCond .ne 7, 3), (10, .iconst 1, 1), (11, .goto 4, 3), (14, .iconst 0, 1), (15, .ireturn, 1)] := dw_all (l := [32, 30, 184, 0, 32, 9, 148, 154, 0, 7, 4, 167, 0, 4, 3, 172]) (by decide +kernel)
theorem dX1_isDivisor_0 : decode cX1_isDivisor 0 = .ok (.lload_n 2, 1) := wtX1_isDivisor_0.1
theorem dX1_isDivisor_1 : decode cX1_isDivisor 1 = .ok (.lload_n 0, 1) := wtX1_isDivisor_0.2.1
theorem dX1_isDivisor_2 : decode cX1_isDivisor 2 = .ok (.invokestatic 32, 3) := wtX1_isDivisor_0.2.2.1
theorem dX1_isDivisor_5 : decode cX1_isDivisor 5 = .ok (.lconst 0, 1) := wtX1_isDivisor_0.2.2.2.1
theorem dX1_isDivisor_6 : decode cX1_isDivisor 6 = .ok (.lcmp, 1) := wtX1_isDivisor_0.2.2.2.2.1
theorem dX1_isDivisor_7 : decode cX1_isDivisor 7 = .ok (.ifCond .ne 7, 3) := wtX1_isDivisor_0.2.2.2.2.2.1
theorem dX1_isDivisor_10 : decode cX1_isDivisor 10 = .ok (.iconst 1, 1) := wtX1_isDivisor_0.2.2.2.2.2.2.1
theorem dX1_isDivisor_11 : decode cX1_isDivisor 11 = .ok (.goto 4, 3) := wtX1_isDivisor_0.2.2.2.2.2.2.2.1
theorem dX1_isDivisor_14 : decode cX1_isDivisor 14 = .ok (.iconst 0, 1) := wtX1_isDivisor_0.2.2.2.2.2.2.2.2.1
theorem dX1_isDivisor_15 : decode cX1_isDivisor 15 = .ok (.ireturn, 1) := wtX1_isDivisor_0.2.2.2.2.2.2.2.2.2.1
theorem wtX1_euclid_0 : dwcj cX1_euclid 0 [(0, .lload_n 0, 1), (1, .lstore 8, 2), (3, .lload_n 2, 1), (4, .lstore 10, 2), (6, .lload 4, 2), (8, .lstore 12, 2), (10, .lload 6, 2), (12, .lstore 14, 2), (14, .iconst 0, 1), (15, .istore 16, 2), (17, .iload 16, 2), (19, .bipush 64, 2), (21, .if_icmp .gt 65, 3)] := dw_all (l := [30, 55, 8, 32, 55, 10, 22, 4, 55, 12, 22, 6, 55, 14, 3, 54, 16, 21, 16, 16, 64, 163, 0, 65]) (by decide +kernel)
theorem dX1_euclid_0 : decode cX1_euclid 0 = .ok (.lload_n 0, 1) := wtX1_euclid_0.1
theorem dX1_euclid_1 : decode cX1_euclid 1 = .ok (.lstore 8, 2) := wtX1_euclid_0.2.1
theorem dX1_euclid_3 : decode cX1_euclid 3 = .ok (.lload_n 2, 1) := wtX1_euclid_0.2.2.1
theorem dX1_euclid_4 : decode cX1_euclid 4 = .ok (.lstore 10, 2) := wtX1_euclid_0.2.2.2.1
theorem dX1_euclid_6 : decode cX1_euclid 6 = .ok (.lload 4, 2) := wtX1_euclid_0.2.2.2.2.1
theorem dX1_euclid_8 : decode cX1_euclid 8 = .ok (.lstore 12, 2) := wtX1_euclid_0.2.2.2.2.2.1
theorem dX1_euclid_10 : decode cX1_euclid 10 = .ok (.lload 6, 2) := wtX1_euclid_0.2.2.2.2.2.2.1
theorem dX1_euclid_12 : decode cX1_euclid 12 = .ok (.lstore 14, 2) := wtX1_euclid_0.2.2.2.2.2.2.2.1
theorem dX1_euclid_14 : decode cX1_euclid 14 = .ok (.iconst 0, 1) := wtX1_euclid_0.2.2.2.2.2.2.2.2.1
theorem dX1_euclid_15 : decode cX1_euclid 15 = .ok (.istore 16, 2) := wtX1_euclid_0.2.2.2.2.2.2.2.2.2.1
theorem dX1_euclid_17 : decode cX1_euclid 17 = .ok (.iload 16, 2) := wtX1_euclid_0.2.2.2.2.2.2.2.2.2.2.1
theorem dX1_euclid_19 : decode cX1_euclid 19 = .ok (.bipush 64, 2) := wtX1_euclid_0.2.2.2.2.2.2.2.2.2.2.2.1
theorem dX1_euclid_21 : decode cX1_euclid 21 = .ok (.if_icmp .gt 65, 3) := wtX1_euclid_0.2.2.2.2.2.2.2.2.2.2.2.2.1
theorem wtX1_euclid_24 : dwcj cX1_euclid 24 [(0, .lload 10, 2), (2, .lconst 0, 1), (3, .lcmp, 1), (4, .ifCond .eq 58, 3), (7, .lload 8, 2), (9, .lload 10, 2), (11, .invokestatic 25, 3), (14, .lstore 17, 2), (16, .lload 8, 2), (18, .lload 17, 2), (20, .lload 10, 2), (22, .invokestatic 29, 3)] := dw_all (l := [22, 10, 9, 148, 153, 0, 58, 22, 8, 22, 10, 184, 0, 25, 55, 17, 22, 8, 22, 17, 22, 10, 184, 0, 29]) (by decide +kernel)
theorem dX1_euclid_24 : decode cX1_euclid 24 = .ok (.lload 10, 2) := wtX1_euclid_24.1
theorem dX1_euclid_26 : decode cX1_euclid 26 = .ok (.lconst 0, 1) := wtX1_euclid_24.2.1
theorem dX1_euclid_27 : decode cX1_euclid 27 = .ok (.lcmp, 1) := wtX1_euclid_24.2.2.1
theorem dX1_euclid_28 : decode cX1_euclid 28 = .ok (.ifCond .eq 58, 3) := wtX1_euclid_24.2.2.2.1
theorem dX1_euclid_31 : decode cX1_euclid 31 = .ok (.lload 8, 2) := wtX1_euclid_24.2.2.2.2.1
theorem dX1_euclid_33 : decode cX1_euclid 33 = .ok (.lload 10, 2) := wtX1_euclid_24.2.2.2.2.2.1
theorem dX1_euclid_35 : decode cX1_euclid 35 = .ok (.invokestatic 25, 3) := wtX1_euclid_24.2.2.2.2.2.2.1
theorem dX1_euclid_38 : decode cX1_euclid 38 = .ok (.lstore 17, 2) := wtX1_euclid_24.2.2.2.2.2.2.2.1
theorem dX1_euclid_40 : decode cX1_euclid 40 = .ok (.lload 8, 2) := wtX1_euclid_24.2.2.2.2.2.2.2.2.1
theorem dX1_euclid_42 : decode cX1_euclid 42 = .ok (.lload 17, 2) := wtX1_euclid_24.2.2.2.2.2.2.2.2.2.1
theorem dX1_euclid_44 : decode cX1_euclid 44 = .ok (.lload 10, 2) := wtX1_euclid_24.2.2.2.2.2.2.2.2.2.2.1
theorem dX1_euclid_46 : decode cX1_euclid 46 = .ok (.invokestatic 29, 3) := wtX1_euclid_24.2.2.2.2.2.2.2.2.2.2.2.1
theorem wtX1_euclid_49 : dwcj cX1_euclid 49 [(0, .lxor, 1), (1, .lstore 19, 2), (3, .lload 12, 2), (5, .lload 17, 2), (7, .lload 14, 2), (9, .invokestatic 29, 3), (12, .lxor, 1), (13, .lstore 21, 2), (15, .lload 10, 2), (17, .lstore 8, 2), (19, .lload 19, 2), (21, .lstore 10, 2), (23, .lload 14, 2)] := dw_all (l := [131, 55, 19, 22, 12, 22, 17, 22, 14, 184, 0, 29, 131, 55, 21, 22, 10, 55, 8, 22, 19, 55, 10, 22, 14]) (by decide +kernel)
theorem dX1_euclid_49 : decode cX1_euclid 49 = .ok (.lxor, 1) := wtX1_euclid_49.1
theorem dX1_euclid_50 : decode cX1_euclid 50 = .ok (.lstore 19, 2) := wtX1_euclid_49.2.1
theorem dX1_euclid_52 : decode cX1_euclid 52 = .ok (.lload 12, 2) := wtX1_euclid_49.2.2.1
theorem dX1_euclid_54 : decode cX1_euclid 54 = .ok (.lload 17, 2) := wtX1_euclid_49.2.2.2.1
theorem dX1_euclid_56 : decode cX1_euclid 56 = .ok (.lload 14, 2) := wtX1_euclid_49.2.2.2.2.1
theorem dX1_euclid_58 : decode cX1_euclid 58 = .ok (.invokestatic 29, 3) := wtX1_euclid_49.2.2.2.2.2.1
theorem dX1_euclid_61 : decode cX1_euclid 61 = .ok (.lxor, 1) := wtX1_euclid_49.2.2.2.2.2.2.1
theorem dX1_euclid_62 : decode cX1_euclid 62 = .ok (.lstore 21, 2) := wtX1_euclid_49.2.2.2.2.2.2.2.1
theorem dX1_euclid_64 : decode cX1_euclid 64 = .ok (.lload 10, 2) := wtX1_euclid_49.2.2.2.2.2.2.2.2.1
theorem dX1_euclid_66 : decode cX1_euclid 66 = .ok (.lstore 8, 2) := wtX1_euclid_49.2.2.2.2.2.2.2.2.2.1
theorem dX1_euclid_68 : decode cX1_euclid 68 = .ok (.lload 19, 2) := wtX1_euclid_49.2.2.2.2.2.2.2.2.2.2.1
theorem dX1_euclid_70 : decode cX1_euclid 70 = .ok (.lstore 10, 2) := wtX1_euclid_49.2.2.2.2.2.2.2.2.2.2.2.1
theorem dX1_euclid_72 : decode cX1_euclid 72 = .ok (.lload 14, 2) := wtX1_euclid_49.2.2.2.2.2.2.2.2.2.2.2.2.1
theorem wtX1_euclid_74 : dwcj cX1_euclid 74 [(0, .lstore 12, 2), (2, .lload 21, 2), (4, .lstore 14, 2), (6, .iinc 16 1, 3), (9, .goto (-66), 3), (12, .lload 12, 2), (14, .lreturn, 1)] := dw_all (l := [55, 12, 22, 21, 55, 14, 132, 16, 1, 167, 255, 190, 22, 12, 173]) (by decide +kernel)
theorem dX1_euclid_74 : decode cX1_euclid 74 = .ok (.lstore 12, 2) := wtX1_euclid_74.1
theorem dX1_euclid_76 : decode cX1_euclid 76 = .ok (.lload 21, 2) := wtX1_euclid_74.2.1
theorem dX1_euclid_78 : decode cX1_euclid 78 = .ok (.lstore 14, 2) := wtX1_euclid_74.2.2.1
theorem dX1_euclid_80 : decode cX1_euclid 80 = .ok (.iinc 16 1, 3) := wtX1_euclid_74.2.2.2.1
theorem dX1_euclid_83 : decode cX1_euclid 83 = .ok (.goto (-66), 3) := wtX1_euclid_74.2.2.2.2.1
theorem dX1_euclid_86 : decode cX1_euclid 86 = .ok (.lload 12, 2) := wtX1_euclid_74.2.2.2.2.2.1
theorem dX1_euclid_88 : decode cX1_euclid 88 = .ok (.lreturn, 1) := wtX1_euclid_74.2.2.2.2.2.2.1
theorem wtX1_gcdOf_0 : dwcj cX1_gcdOf 0 [(0, .lload_n 0, 1), (1, .lload_n 2, 1), (2, .lload_n 0, 1), (3, .lload_n 2, 1), (4, .invokestatic 35, 3), (7, .lreturn, 1)] := dw_all (l := [30, 32, 30, 32, 184, 0, 35, 173]) (by decide +kernel)
theorem dX1_gcdOf_0 : decode cX1_gcdOf 0 = .ok (.lload_n 0, 1) := wtX1_gcdOf_0.1
theorem dX1_gcdOf_1 : decode cX1_gcdOf 1 = .ok (.lload_n 2, 1) := wtX1_gcdOf_0.2.1
theorem dX1_gcdOf_2 : decode cX1_gcdOf 2 = .ok (.lload_n 0, 1) := wtX1_gcdOf_0.2.2.1
theorem dX1_gcdOf_3 : decode cX1_gcdOf 3 = .ok (.lload_n 2, 1) := wtX1_gcdOf_0.2.2.2.1
theorem dX1_gcdOf_4 : decode cX1_gcdOf 4 = .ok (.invokestatic 35, 3) := wtX1_gcdOf_0.2.2.2.2.1
theorem dX1_gcdOf_7 : decode cX1_gcdOf 7 = .ok (.lreturn, 1) := wtX1_gcdOf_0.2.2.2.2.2.1
theorem wtX1_firstBezout_0 : dwcj cX1_firstBezout 0 [(0, .lload_n 0, 1), (1, .lload_n 2, 1), (2, .lconst 1, 1), (3, .lconst 0, 1), (4, .invokestatic 35, 3), (7, .lreturn, 1)] := dw_all (l := [30, 32, 10, 9, 184, 0, 35, 173]) (by decide +kernel)
theorem dX1_firstBezout_0 : decode cX1_firstBezout 0 = .ok (.lload_n 0, 1) := wtX1_firstBezout_0.1
theorem dX1_firstBezout_1 : decode cX1_firstBezout 1 = .ok (.lload_n 2, 1) := wtX1_firstBezout_0.2.1
theorem dX1_firstBezout_2 : decode cX1_firstBezout 2 = .ok (.lconst 1, 1) := wtX1_firstBezout_0.2.2.1
theorem dX1_firstBezout_3 : decode cX1_firstBezout 3 = .ok (.lconst 0, 1) := wtX1_firstBezout_0.2.2.2.1
theorem dX1_firstBezout_4 : decode cX1_firstBezout 4 = .ok (.invokestatic 35, 3) := wtX1_firstBezout_0.2.2.2.2.1
theorem dX1_firstBezout_7 : decode cX1_firstBezout 7 = .ok (.lreturn, 1) := wtX1_firstBezout_0.2.2.2.2.2.1
theorem wtX1_secondBezout_0 : dwcj cX1_secondBezout 0 [(0, .lload_n 0, 1), (1, .lload_n 2, 1), (2, .lconst 0, 1), (3, .lconst 1, 1), (4, .invokestatic 35, 3), (7, .lreturn, 1)] := dw_all (l := [30, 32, 9, 10, 184, 0, 35, 173]) (by decide +kernel)
theorem dX1_secondBezout_0 : decode cX1_secondBezout 0 = .ok (.lload_n 0, 1) := wtX1_secondBezout_0.1
theorem dX1_secondBezout_1 : decode cX1_secondBezout 1 = .ok (.lload_n 2, 1) := wtX1_secondBezout_0.2.1
theorem dX1_secondBezout_2 : decode cX1_secondBezout 2 = .ok (.lconst 0, 1) := wtX1_secondBezout_0.2.2.1
theorem dX1_secondBezout_3 : decode cX1_secondBezout 3 = .ok (.lconst 1, 1) := wtX1_secondBezout_0.2.2.2.1
theorem dX1_secondBezout_4 : decode cX1_secondBezout 4 = .ok (.invokestatic 35, 3) := wtX1_secondBezout_0.2.2.2.2.1
theorem dX1_secondBezout_7 : decode cX1_secondBezout 7 = .ok (.lreturn, 1) := wtX1_secondBezout_0.2.2.2.2.2.1
theorem wtX1_derived_0 : dwcj cX1_derived 0 [(0, .lload_n 0, 1), (1, .iconst 1, 1), (2, .lushr, 1), (3, .ldc2_w 39, 3), (6, .land, 1), (7, .lreturn, 1)] := dw_all (l := [30, 4, 125, 20, 0, 39, 127, 173]) (by decide +kernel)
theorem dX1_derived_0 : decode cX1_derived 0 = .ok (.lload_n 0, 1) := wtX1_derived_0.1
theorem dX1_derived_1 : decode cX1_derived 1 = .ok (.iconst 1, 1) := wtX1_derived_0.2.1
theorem dX1_derived_2 : decode cX1_derived 2 = .ok (.lushr, 1) := wtX1_derived_0.2.2.1
theorem dX1_derived_3 : decode cX1_derived 3 = .ok (.ldc2_w 39, 3) := wtX1_derived_0.2.2.2.1
theorem dX1_derived_6 : decode cX1_derived 6 = .ok (.land, 1) := wtX1_derived_0.2.2.2.2.1
theorem dX1_derived_7 : decode cX1_derived 7 = .ok (.lreturn, 1) := wtX1_derived_0.2.2.2.2.2.1
theorem wtX1_evenPlacesHalved_0 : dwcj cX1_evenPlacesHalved 0 [(0, .lconst 0, 1), (1, .lstore_n 2, 1), (2, .iconst 0, 1), (3, .istore 4, 2), (5, .iload 4, 2), (7, .bipush 64, 2), (9, .if_icmp .ge 28, 3), (12, .lload_n 0, 1), (13, .iload 4, 2), (15, .invokestatic 11, 3), (18, .ifCond .eq 13, 3), (21, .lload_n 2, 1), (22, .iload 4, 2)] := dw_all (l := [9, 65, 3, 54, 4, 21, 4, 16, 64, 162, 0, 28, 30, 21, 4, 184, 0, 11, 153, 0, 13, 32, 21, 4]) (by decide +kernel)
theorem dX1_evenPlacesHalved_0 : decode cX1_evenPlacesHalved 0 = .ok (.lconst 0, 1) := wtX1_evenPlacesHalved_0.1
theorem dX1_evenPlacesHalved_1 : decode cX1_evenPlacesHalved 1 = .ok (.lstore_n 2, 1) := wtX1_evenPlacesHalved_0.2.1
theorem dX1_evenPlacesHalved_2 : decode cX1_evenPlacesHalved 2 = .ok (.iconst 0, 1) := wtX1_evenPlacesHalved_0.2.2.1
theorem dX1_evenPlacesHalved_3 : decode cX1_evenPlacesHalved 3 = .ok (.istore 4, 2) := wtX1_evenPlacesHalved_0.2.2.2.1
theorem dX1_evenPlacesHalved_5 : decode cX1_evenPlacesHalved 5 = .ok (.iload 4, 2) := wtX1_evenPlacesHalved_0.2.2.2.2.1
theorem dX1_evenPlacesHalved_7 : decode cX1_evenPlacesHalved 7 = .ok (.bipush 64, 2) := wtX1_evenPlacesHalved_0.2.2.2.2.2.1
theorem dX1_evenPlacesHalved_9 : decode cX1_evenPlacesHalved 9 = .ok (.if_icmp .ge 28, 3) := wtX1_evenPlacesHalved_0.2.2.2.2.2.2.1
theorem dX1_evenPlacesHalved_12 : decode cX1_evenPlacesHalved 12 = .ok (.lload_n 0, 1) := wtX1_evenPlacesHalved_0.2.2.2.2.2.2.2.1
theorem dX1_evenPlacesHalved_13 : decode cX1_evenPlacesHalved 13 = .ok (.iload 4, 2) := wtX1_evenPlacesHalved_0.2.2.2.2.2.2.2.2.1
theorem dX1_evenPlacesHalved_15 : decode cX1_evenPlacesHalved 15 = .ok (.invokestatic 11, 3) := wtX1_evenPlacesHalved_0.2.2.2.2.2.2.2.2.2.1
theorem dX1_evenPlacesHalved_18 : decode cX1_evenPlacesHalved 18 = .ok (.ifCond .eq 13, 3) := wtX1_evenPlacesHalved_0.2.2.2.2.2.2.2.2.2.2.1
theorem dX1_evenPlacesHalved_21 : decode cX1_evenPlacesHalved 21 = .ok (.lload_n 2, 1) := wtX1_evenPlacesHalved_0.2.2.2.2.2.2.2.2.2.2.2.1
theorem dX1_evenPlacesHalved_22 : decode cX1_evenPlacesHalved 22 = .ok (.iload 4, 2) := wtX1_evenPlacesHalved_0.2.2.2.2.2.2.2.2.2.2.2.2.1
theorem wtX1_evenPlacesHalved_24 : dwcj cX1_evenPlacesHalved 24 [(0, .iconst 2, 1), (1, .idiv, 1), (2, .invokestatic 21, 3), (5, .lor, 1), (6, .lstore_n 2, 1), (7, .iinc 4 2, 3), (10, .goto (-29), 3), (13, .lload_n 2, 1), (14, .lreturn, 1)] := dw_all (l := [5, 108, 184, 0, 21, 129, 65, 132, 4, 2, 167, 255, 227, 32, 173]) (by decide +kernel)
theorem dX1_evenPlacesHalved_24 : decode cX1_evenPlacesHalved 24 = .ok (.iconst 2, 1) := wtX1_evenPlacesHalved_24.1
theorem dX1_evenPlacesHalved_25 : decode cX1_evenPlacesHalved 25 = .ok (.idiv, 1) := wtX1_evenPlacesHalved_24.2.1
theorem dX1_evenPlacesHalved_26 : decode cX1_evenPlacesHalved 26 = .ok (.invokestatic 21, 3) := wtX1_evenPlacesHalved_24.2.2.1
theorem dX1_evenPlacesHalved_29 : decode cX1_evenPlacesHalved 29 = .ok (.lor, 1) := wtX1_evenPlacesHalved_24.2.2.2.1
theorem dX1_evenPlacesHalved_30 : decode cX1_evenPlacesHalved 30 = .ok (.lstore_n 2, 1) := wtX1_evenPlacesHalved_24.2.2.2.2.1
theorem dX1_evenPlacesHalved_31 : decode cX1_evenPlacesHalved 31 = .ok (.iinc 4 2, 3) := wtX1_evenPlacesHalved_24.2.2.2.2.2.1
theorem dX1_evenPlacesHalved_34 : decode cX1_evenPlacesHalved 34 = .ok (.goto (-29), 3) := wtX1_evenPlacesHalved_24.2.2.2.2.2.2.1
theorem dX1_evenPlacesHalved_37 : decode cX1_evenPlacesHalved 37 = .ok (.lload_n 2, 1) := wtX1_evenPlacesHalved_24.2.2.2.2.2.2.2.1
theorem dX1_evenPlacesHalved_38 : decode cX1_evenPlacesHalved 38 = .ok (.lreturn, 1) := wtX1_evenPlacesHalved_24.2.2.2.2.2.2.2.2.1
theorem wtX1_turned_0 : dwcj cX1_turned 0 [(0, .lload_n 0, 1), (1, .invokestatic 17, 3), (4, .istore_n 2, 1), (5, .lconst 0, 1), (6, .lstore_n 3, 1), (7, .iconst 0, 1), (8, .istore 5, 2), (10, .iload 5, 2), (12, .iload_n 2, 1), (13, .if_icmp .gt 28, 3), (16, .lload_n 0, 1), (17, .iload 5, 2), (19, .invokestatic 11, 3), (22, .ifCond .eq 13, 3)] := dw_all (l := [30, 184, 0, 17, 61, 9, 66, 3, 54, 5, 21, 5, 28, 163, 0, 28, 30, 21, 5, 184, 0, 11, 153, 0, 13]) (by decide +kernel)
theorem dX1_turned_0 : decode cX1_turned 0 = .ok (.lload_n 0, 1) := wtX1_turned_0.1
theorem dX1_turned_1 : decode cX1_turned 1 = .ok (.invokestatic 17, 3) := wtX1_turned_0.2.1
theorem dX1_turned_4 : decode cX1_turned 4 = .ok (.istore_n 2, 1) := wtX1_turned_0.2.2.1
theorem dX1_turned_5 : decode cX1_turned 5 = .ok (.lconst 0, 1) := wtX1_turned_0.2.2.2.1
theorem dX1_turned_6 : decode cX1_turned 6 = .ok (.lstore_n 3, 1) := wtX1_turned_0.2.2.2.2.1
theorem dX1_turned_7 : decode cX1_turned 7 = .ok (.iconst 0, 1) := wtX1_turned_0.2.2.2.2.2.1
theorem dX1_turned_8 : decode cX1_turned 8 = .ok (.istore 5, 2) := wtX1_turned_0.2.2.2.2.2.2.1
theorem dX1_turned_10 : decode cX1_turned 10 = .ok (.iload 5, 2) := wtX1_turned_0.2.2.2.2.2.2.2.1
theorem dX1_turned_12 : decode cX1_turned 12 = .ok (.iload_n 2, 1) := wtX1_turned_0.2.2.2.2.2.2.2.2.1
theorem dX1_turned_13 : decode cX1_turned 13 = .ok (.if_icmp .gt 28, 3) := wtX1_turned_0.2.2.2.2.2.2.2.2.2.1
theorem dX1_turned_16 : decode cX1_turned 16 = .ok (.lload_n 0, 1) := wtX1_turned_0.2.2.2.2.2.2.2.2.2.2.1
theorem dX1_turned_17 : decode cX1_turned 17 = .ok (.iload 5, 2) := wtX1_turned_0.2.2.2.2.2.2.2.2.2.2.2.1
theorem dX1_turned_19 : decode cX1_turned 19 = .ok (.invokestatic 11, 3) := wtX1_turned_0.2.2.2.2.2.2.2.2.2.2.2.2.1
theorem dX1_turned_22 : decode cX1_turned 22 = .ok (.ifCond .eq 13, 3) := wtX1_turned_0.2.2.2.2.2.2.2.2.2.2.2.2.2.1
theorem wtX1_turned_25 : dwcj cX1_turned 25 [(0, .lload_n 3, 1), (1, .iload_n 2, 1), (2, .iload 5, 2), (4, .isub, 1), (5, .invokestatic 21, 3), (8, .lor, 1), (9, .lstore_n 3, 1), (10, .iinc 5 1, 3), (13, .goto (-28), 3), (16, .lload_n 3, 1), (17, .lreturn, 1)] := dw_all (l := [33, 28, 21, 5, 100, 184, 0, 21, 129, 66, 132, 5, 1, 167, 255, 228, 33, 173]) (by decide +kernel)
theorem dX1_turned_25 : decode cX1_turned 25 = .ok (.lload_n 3, 1) := wtX1_turned_25.1
theorem dX1_turned_26 : decode cX1_turned 26 = .ok (.iload_n 2, 1) := wtX1_turned_25.2.1
theorem dX1_turned_27 : decode cX1_turned 27 = .ok (.iload 5, 2) := wtX1_turned_25.2.2.1
theorem dX1_turned_29 : decode cX1_turned 29 = .ok (.isub, 1) := wtX1_turned_25.2.2.2.1
theorem dX1_turned_30 : decode cX1_turned 30 = .ok (.invokestatic 21, 3) := wtX1_turned_25.2.2.2.2.1
theorem dX1_turned_33 : decode cX1_turned 33 = .ok (.lor, 1) := wtX1_turned_25.2.2.2.2.2.1
theorem dX1_turned_34 : decode cX1_turned 34 = .ok (.lstore_n 3, 1) := wtX1_turned_25.2.2.2.2.2.2.1
theorem dX1_turned_35 : decode cX1_turned 35 = .ok (.iinc 5 1, 3) := wtX1_turned_25.2.2.2.2.2.2.2.1
theorem dX1_turned_38 : decode cX1_turned 38 = .ok (.goto (-28), 3) := wtX1_turned_25.2.2.2.2.2.2.2.2.1
theorem dX1_turned_41 : decode cX1_turned 41 = .ok (.lload_n 3, 1) := wtX1_turned_25.2.2.2.2.2.2.2.2.2.1
theorem dX1_turned_42 : decode cX1_turned 42 = .ok (.lreturn, 1) := wtX1_turned_25.2.2.2.2.2.2.2.2.2.2.1
theorem wtX1_moved_0 : dwcj cX1_moved 0 [(0, .lconst 0, 1), (1, .lstore_n 2, 1), (2, .lload_n 0, 1), (3, .invokestatic 17, 3), (6, .istore 4, 2), (8, .iload 4, 2), (10, .ifCond .lt 22, 3), (13, .lload_n 2, 1), (14, .iconst 1, 1), (15, .lshl, 1), (16, .lload_n 2, 1), (17, .lxor, 1), (18, .lload_n 0, 1), (19, .iload 4, 2), (21, .lushr, 1), (22, .lconst 1, 1), (23, .land, 1)] := dw_all (l := [9, 65, 30, 184, 0, 17, 54, 4, 21, 4, 155, 0, 22, 32, 4, 121, 32, 131, 30, 21, 4, 125, 10, 127]) (by decide +kernel)
theorem dX1_moved_0 : decode cX1_moved 0 = .ok (.lconst 0, 1) := wtX1_moved_0.1
theorem dX1_moved_1 : decode cX1_moved 1 = .ok (.lstore_n 2, 1) := wtX1_moved_0.2.1
theorem dX1_moved_2 : decode cX1_moved 2 = .ok (.lload_n 0, 1) := wtX1_moved_0.2.2.1
theorem dX1_moved_3 : decode cX1_moved 3 = .ok (.invokestatic 17, 3) := wtX1_moved_0.2.2.2.1
theorem dX1_moved_6 : decode cX1_moved 6 = .ok (.istore 4, 2) := wtX1_moved_0.2.2.2.2.1
theorem dX1_moved_8 : decode cX1_moved 8 = .ok (.iload 4, 2) := wtX1_moved_0.2.2.2.2.2.1
theorem dX1_moved_10 : decode cX1_moved 10 = .ok (.ifCond .lt 22, 3) := wtX1_moved_0.2.2.2.2.2.2.1
theorem dX1_moved_13 : decode cX1_moved 13 = .ok (.lload_n 2, 1) := wtX1_moved_0.2.2.2.2.2.2.2.1
theorem dX1_moved_14 : decode cX1_moved 14 = .ok (.iconst 1, 1) := wtX1_moved_0.2.2.2.2.2.2.2.2.1
theorem dX1_moved_15 : decode cX1_moved 15 = .ok (.lshl, 1) := wtX1_moved_0.2.2.2.2.2.2.2.2.2.1
theorem dX1_moved_16 : decode cX1_moved 16 = .ok (.lload_n 2, 1) := wtX1_moved_0.2.2.2.2.2.2.2.2.2.2.1
theorem dX1_moved_17 : decode cX1_moved 17 = .ok (.lxor, 1) := wtX1_moved_0.2.2.2.2.2.2.2.2.2.2.2.1
theorem dX1_moved_18 : decode cX1_moved 18 = .ok (.lload_n 0, 1) := wtX1_moved_0.2.2.2.2.2.2.2.2.2.2.2.2.1
theorem dX1_moved_19 : decode cX1_moved 19 = .ok (.iload 4, 2) := wtX1_moved_0.2.2.2.2.2.2.2.2.2.2.2.2.2.1
theorem dX1_moved_21 : decode cX1_moved 21 = .ok (.lushr, 1) := wtX1_moved_0.2.2.2.2.2.2.2.2.2.2.2.2.2.2.1
theorem dX1_moved_22 : decode cX1_moved 22 = .ok (.lconst 1, 1) := wtX1_moved_0.2.2.2.2.2.2.2.2.2.2.2.2.2.2.2.1
theorem dX1_moved_23 : decode cX1_moved 23 = .ok (.land, 1) := wtX1_moved_0.2.2.2.2.2.2.2.2.2.2.2.2.2.2.2.2.1
theorem wtX1_moved_24 : dwcj cX1_moved 24 [(0, .lxor, 1), (1, .lstore_n 2, 1), (2, .iinc 4 (-1), 3), (5, .goto (-21), 3), (8, .lload_n 2, 1), (9, .lreturn, 1)] := dw_all (l := [131, 65, 132, 4, 255, 167, 255, 235, 32, 173]) (by decide +kernel)
theorem dX1_moved_24 : decode cX1_moved 24 = .ok (.lxor, 1) := wtX1_moved_24.1
theorem dX1_moved_25 : decode cX1_moved 25 = .ok (.lstore_n 2, 1) := wtX1_moved_24.2.1
theorem dX1_moved_26 : decode cX1_moved 26 = .ok (.iinc 4 (-1), 3) := wtX1_moved_24.2.2.1
theorem dX1_moved_29 : decode cX1_moved 29 = .ok (.goto (-21), 3) := wtX1_moved_24.2.2.2.1
theorem dX1_moved_32 : decode cX1_moved 32 = .ok (.lload_n 2, 1) := wtX1_moved_24.2.2.2.2.1
theorem dX1_moved_33 : decode cX1_moved 33 = .ok (.lreturn, 1) := wtX1_moved_24.2.2.2.2.2.1
theorem wtX1_powerRest_0 : dwcj cX1_powerRest 0 [(0, .lload_n 0, 1), (1, .lload_n 3, 1), (2, .invokestatic 32, 3), (5, .lstore 5, 2), (7, .lconst 1, 1), (8, .lstore 7, 2), (10, .bipush 7, 2), (12, .istore 9, 2), (14, .iload 9, 2), (16, .ifCond .lt 45, 3), (19, .lload 7, 2), (21, .lload 7, 2), (23, .invokestatic 29, 3)] := dw_all (l := [30, 33, 184, 0, 32, 55, 5, 10, 55, 7, 16, 7, 54, 9, 21, 9, 155, 0, 45, 22, 7, 22, 7, 184, 0, 29]) (by decide +kernel)
theorem dX1_powerRest_0 : decode cX1_powerRest 0 = .ok (.lload_n 0, 1) := wtX1_powerRest_0.1
theorem dX1_powerRest_1 : decode cX1_powerRest 1 = .ok (.lload_n 3, 1) := wtX1_powerRest_0.2.1
theorem dX1_powerRest_2 : decode cX1_powerRest 2 = .ok (.invokestatic 32, 3) := wtX1_powerRest_0.2.2.1
theorem dX1_powerRest_5 : decode cX1_powerRest 5 = .ok (.lstore 5, 2) := wtX1_powerRest_0.2.2.2.1
theorem dX1_powerRest_7 : decode cX1_powerRest 7 = .ok (.lconst 1, 1) := wtX1_powerRest_0.2.2.2.2.1
theorem dX1_powerRest_8 : decode cX1_powerRest 8 = .ok (.lstore 7, 2) := wtX1_powerRest_0.2.2.2.2.2.1
theorem dX1_powerRest_10 : decode cX1_powerRest 10 = .ok (.bipush 7, 2) := wtX1_powerRest_0.2.2.2.2.2.2.1
theorem dX1_powerRest_12 : decode cX1_powerRest 12 = .ok (.istore 9, 2) := wtX1_powerRest_0.2.2.2.2.2.2.2.1
theorem dX1_powerRest_14 : decode cX1_powerRest 14 = .ok (.iload 9, 2) := wtX1_powerRest_0.2.2.2.2.2.2.2.2.1
theorem dX1_powerRest_16 : decode cX1_powerRest 16 = .ok (.ifCond .lt 45, 3) := wtX1_powerRest_0.2.2.2.2.2.2.2.2.2.1
theorem dX1_powerRest_19 : decode cX1_powerRest 19 = .ok (.lload 7, 2) := wtX1_powerRest_0.2.2.2.2.2.2.2.2.2.2.1
theorem dX1_powerRest_21 : decode cX1_powerRest 21 = .ok (.lload 7, 2) := wtX1_powerRest_0.2.2.2.2.2.2.2.2.2.2.2.1
theorem dX1_powerRest_23 : decode cX1_powerRest 23 = .ok (.invokestatic 29, 3) := wtX1_powerRest_0.2.2.2.2.2.2.2.2.2.2.2.2.1
theorem wtX1_powerRest_26 : dwcj cX1_powerRest 26 [(0, .lload_n 3, 1), (1, .invokestatic 32, 3), (4, .lstore 7, 2), (6, .iload_n 2, 1), (7, .iload 9, 2), (9, .ishr, 1), (10, .iconst 1, 1), (11, .iand, 1), (12, .iconst 1, 1), (13, .if_icmp .ne 16, 3), (16, .lload 7, 2), (18, .lload 5, 2), (20, .invokestatic 29, 3), (23, .lload_n 3, 1)] := dw_all (l := [33, 184, 0, 32, 55, 7, 28, 21, 9, 122, 4, 126, 4, 160, 0, 16, 22, 7, 22, 5, 184, 0, 29, 33]) (by decide +kernel)
theorem dX1_powerRest_26 : decode cX1_powerRest 26 = .ok (.lload_n 3, 1) := wtX1_powerRest_26.1
theorem dX1_powerRest_27 : decode cX1_powerRest 27 = .ok (.invokestatic 32, 3) := wtX1_powerRest_26.2.1
theorem dX1_powerRest_30 : decode cX1_powerRest 30 = .ok (.lstore 7, 2) := wtX1_powerRest_26.2.2.1
theorem dX1_powerRest_32 : decode cX1_powerRest 32 = .ok (.iload_n 2, 1) := wtX1_powerRest_26.2.2.2.1
theorem dX1_powerRest_33 : decode cX1_powerRest 33 = .ok (.iload 9, 2) := wtX1_powerRest_26.2.2.2.2.1
theorem dX1_powerRest_35 : decode cX1_powerRest 35 = .ok (.ishr, 1) := wtX1_powerRest_26.2.2.2.2.2.1
theorem dX1_powerRest_36 : decode cX1_powerRest 36 = .ok (.iconst 1, 1) := wtX1_powerRest_26.2.2.2.2.2.2.1
theorem dX1_powerRest_37 : decode cX1_powerRest 37 = .ok (.iand, 1) := wtX1_powerRest_26.2.2.2.2.2.2.2.1
theorem dX1_powerRest_38 : decode cX1_powerRest 38 = .ok (.iconst 1, 1) := wtX1_powerRest_26.2.2.2.2.2.2.2.2.1
theorem dX1_powerRest_39 : decode cX1_powerRest 39 = .ok (.if_icmp .ne 16, 3) := wtX1_powerRest_26.2.2.2.2.2.2.2.2.2.1
theorem dX1_powerRest_42 : decode cX1_powerRest 42 = .ok (.lload 7, 2) := wtX1_powerRest_26.2.2.2.2.2.2.2.2.2.2.1
theorem dX1_powerRest_44 : decode cX1_powerRest 44 = .ok (.lload 5, 2) := wtX1_powerRest_26.2.2.2.2.2.2.2.2.2.2.2.1
theorem dX1_powerRest_46 : decode cX1_powerRest 46 = .ok (.invokestatic 29, 3) := wtX1_powerRest_26.2.2.2.2.2.2.2.2.2.2.2.2.1
theorem dX1_powerRest_49 : decode cX1_powerRest 49 = .ok (.lload_n 3, 1) := wtX1_powerRest_26.2.2.2.2.2.2.2.2.2.2.2.2.2.1
theorem wtX1_powerRest_50 : dwcj cX1_powerRest 50 [(0, .invokestatic 32, 3), (3, .lstore 7, 2), (5, .iinc 9 (-1), 3), (8, .goto (-44), 3), (11, .lload 7, 2), (13, .lreturn, 1)] := dw_all (l := [184, 0, 32, 55, 7, 132, 9, 255, 167, 255, 212, 22, 7, 173]) (by decide +kernel)
theorem dX1_powerRest_50 : decode cX1_powerRest 50 = .ok (.invokestatic 32, 3) := wtX1_powerRest_50.1
theorem dX1_powerRest_53 : decode cX1_powerRest 53 = .ok (.lstore 7, 2) := wtX1_powerRest_50.2.1
theorem dX1_powerRest_55 : decode cX1_powerRest 55 = .ok (.iinc 9 (-1), 3) := wtX1_powerRest_50.2.2.1
theorem dX1_powerRest_58 : decode cX1_powerRest 58 = .ok (.goto (-44), 3) := wtX1_powerRest_50.2.2.2.1
theorem dX1_powerRest_61 : decode cX1_powerRest 61 = .ok (.lload 7, 2) := wtX1_powerRest_50.2.2.2.2.1
theorem dX1_powerRest_63 : decode cX1_powerRest 63 = .ok (.lreturn, 1) := wtX1_powerRest_50.2.2.2.2.2.1
theorem wtX2_placesOf_0 : dwcj cX2_placesOf 0 [(0, .lload_n 0, 1), (1, .lconst 0, 1), (2, .lcmp, 1), (3, .ifCond .ne 6, 3), (6, .ldc 7, 2), (8, .areturn, 1), (9, .new 9, 3), (12, .dup, 1), (13, .invokespecial 11, 3), (16, .astore_n 2, 1), (17, .lload_n 0, 1), (18, .invokestatic 12, 3), (21, .istore_n 3, 1), (22, .iload_n 3, 1), (23, .ifCond .lt 37, 3)] := dw_all (l := [30, 9, 148, 154, 0, 6, 18, 7, 176, 187, 0, 9, 89, 183, 0, 11, 77, 30, 184, 0, 12, 62, 29, 155, 0, 37]) (by decide +kernel)
theorem dX2_placesOf_0 : decode cX2_placesOf 0 = .ok (.lload_n 0, 1) := wtX2_placesOf_0.1
theorem dX2_placesOf_1 : decode cX2_placesOf 1 = .ok (.lconst 0, 1) := wtX2_placesOf_0.2.1
theorem dX2_placesOf_2 : decode cX2_placesOf 2 = .ok (.lcmp, 1) := wtX2_placesOf_0.2.2.1
theorem dX2_placesOf_3 : decode cX2_placesOf 3 = .ok (.ifCond .ne 6, 3) := wtX2_placesOf_0.2.2.2.1
theorem dX2_placesOf_6 : decode cX2_placesOf 6 = .ok (.ldc 7, 2) := wtX2_placesOf_0.2.2.2.2.1
theorem dX2_placesOf_8 : decode cX2_placesOf 8 = .ok (.areturn, 1) := wtX2_placesOf_0.2.2.2.2.2.1
theorem dX2_placesOf_9 : decode cX2_placesOf 9 = .ok (.new 9, 3) := wtX2_placesOf_0.2.2.2.2.2.2.1
theorem dX2_placesOf_12 : decode cX2_placesOf 12 = .ok (.dup, 1) := wtX2_placesOf_0.2.2.2.2.2.2.2.1
theorem dX2_placesOf_13 : decode cX2_placesOf 13 = .ok (.invokespecial 11, 3) := wtX2_placesOf_0.2.2.2.2.2.2.2.2.1
theorem dX2_placesOf_16 : decode cX2_placesOf 16 = .ok (.astore_n 2, 1) := wtX2_placesOf_0.2.2.2.2.2.2.2.2.2.1
theorem dX2_placesOf_17 : decode cX2_placesOf 17 = .ok (.lload_n 0, 1) := wtX2_placesOf_0.2.2.2.2.2.2.2.2.2.2.1
theorem dX2_placesOf_18 : decode cX2_placesOf 18 = .ok (.invokestatic 12, 3) := wtX2_placesOf_0.2.2.2.2.2.2.2.2.2.2.2.1
theorem dX2_placesOf_21 : decode cX2_placesOf 21 = .ok (.istore_n 3, 1) := wtX2_placesOf_0.2.2.2.2.2.2.2.2.2.2.2.2.1
theorem dX2_placesOf_22 : decode cX2_placesOf 22 = .ok (.iload_n 3, 1) := wtX2_placesOf_0.2.2.2.2.2.2.2.2.2.2.2.2.2.1
theorem dX2_placesOf_23 : decode cX2_placesOf 23 = .ok (.ifCond .lt 37, 3) := wtX2_placesOf_0.2.2.2.2.2.2.2.2.2.2.2.2.2.2.1
theorem wtX2_placesOf_26 : dwcj cX2_placesOf 26 [(0, .lload_n 0, 1), (1, .iload_n 3, 1), (2, .invokestatic 18, 3), (5, .ifCond .eq 23, 3), (8, .aload_n 2, 1), (9, .invokevirtual 22, 3), (12, .ifCond .le 10, 3), (15, .aload_n 2, 1), (16, .bipush 32, 2), (18, .invokevirtual 26, 3), (21, .pop, 1), (22, .aload_n 2, 1), (23, .iload_n 3, 1)] := dw_all (l := [30, 29, 184, 0, 18, 153, 0, 23, 44, 182, 0, 22, 158, 0, 10, 44, 16, 32, 182, 0, 26, 87, 44, 29]) (by decide +kernel)
theorem dX2_placesOf_26 : decode cX2_placesOf 26 = .ok (.lload_n 0, 1) := wtX2_placesOf_26.1
theorem dX2_placesOf_27 : decode cX2_placesOf 27 = .ok (.iload_n 3, 1) := wtX2_placesOf_26.2.1
theorem dX2_placesOf_28 : decode cX2_placesOf 28 = .ok (.invokestatic 18, 3) := wtX2_placesOf_26.2.2.1
theorem dX2_placesOf_31 : decode cX2_placesOf 31 = .ok (.ifCond .eq 23, 3) := wtX2_placesOf_26.2.2.2.1
theorem dX2_placesOf_34 : decode cX2_placesOf 34 = .ok (.aload_n 2, 1) := wtX2_placesOf_26.2.2.2.2.1
theorem dX2_placesOf_35 : decode cX2_placesOf 35 = .ok (.invokevirtual 22, 3) := wtX2_placesOf_26.2.2.2.2.2.1
theorem dX2_placesOf_38 : decode cX2_placesOf 38 = .ok (.ifCond .le 10, 3) := wtX2_placesOf_26.2.2.2.2.2.2.1
theorem dX2_placesOf_41 : decode cX2_placesOf 41 = .ok (.aload_n 2, 1) := wtX2_placesOf_26.2.2.2.2.2.2.2.1
theorem dX2_placesOf_42 : decode cX2_placesOf 42 = .ok (.bipush 32, 2) := wtX2_placesOf_26.2.2.2.2.2.2.2.2.1
theorem dX2_placesOf_44 : decode cX2_placesOf 44 = .ok (.invokevirtual 26, 3) := wtX2_placesOf_26.2.2.2.2.2.2.2.2.2.1
theorem dX2_placesOf_47 : decode cX2_placesOf 47 = .ok (.pop, 1) := wtX2_placesOf_26.2.2.2.2.2.2.2.2.2.2.1
theorem dX2_placesOf_48 : decode cX2_placesOf 48 = .ok (.aload_n 2, 1) := wtX2_placesOf_26.2.2.2.2.2.2.2.2.2.2.2.1
theorem dX2_placesOf_49 : decode cX2_placesOf 49 = .ok (.iload_n 3, 1) := wtX2_placesOf_26.2.2.2.2.2.2.2.2.2.2.2.2.1
theorem wtX2_placesOf_50 : dwcj cX2_placesOf 50 [(0, .invokevirtual 30, 3), (3, .pop, 1), (4, .iinc 3 (-1), 3), (7, .goto (-35), 3), (10, .aload_n 2, 1), (11, .invokevirtual 33, 3), (14, .areturn, 1)] := dw_all (l := [182, 0, 30, 87, 132, 3, 255, 167, 255, 221, 44, 182, 0, 33, 176]) (by decide +kernel)
theorem dX2_placesOf_50 : decode cX2_placesOf 50 = .ok (.invokevirtual 30, 3) := wtX2_placesOf_50.1
theorem dX2_placesOf_53 : decode cX2_placesOf 53 = .ok (.pop, 1) := wtX2_placesOf_50.2.1
theorem dX2_placesOf_54 : decode cX2_placesOf 54 = .ok (.iinc 3 (-1), 3) := wtX2_placesOf_50.2.2.1
theorem dX2_placesOf_57 : decode cX2_placesOf 57 = .ok (.goto (-35), 3) := wtX2_placesOf_50.2.2.2.1
theorem dX2_placesOf_60 : decode cX2_placesOf 60 = .ok (.aload_n 2, 1) := wtX2_placesOf_50.2.2.2.2.1
theorem dX2_placesOf_61 : decode cX2_placesOf 61 = .ok (.invokevirtual 33, 3) := wtX2_placesOf_50.2.2.2.2.2.1
theorem dX2_placesOf_64 : decode cX2_placesOf 64 = .ok (.areturn, 1) := wtX2_placesOf_50.2.2.2.2.2.2.1
theorem wtX2_numberIn_0 : dwcj cX2_numberIn 0 [(0, .lload_n 0, 1), (1, .lconst 0, 1), (2, .lcmp, 1), (3, .ifCond .le 8, 3), (6, .iload_n 2, 1), (7, .iconst 2, 1), (8, .if_icmp .ge 6, 3), (11, .ldc 37, 2), (13, .areturn, 1), (14, .new 9, 3), (17, .dup, 1), (18, .invokespecial 11, 3), (21, .astore_n 3, 1), (22, .lload_n 0, 1), (23, .lstore 4, 2)] := dw_all (l := [30, 9, 148, 158, 0, 8, 28, 5, 162, 0, 6, 18, 37, 176, 187, 0, 9, 89, 183, 0, 11, 78, 30, 55, 4]) (by decide +kernel)
theorem dX2_numberIn_0 : decode cX2_numberIn 0 = .ok (.lload_n 0, 1) := wtX2_numberIn_0.1
theorem dX2_numberIn_1 : decode cX2_numberIn 1 = .ok (.lconst 0, 1) := wtX2_numberIn_0.2.1
theorem dX2_numberIn_2 : decode cX2_numberIn 2 = .ok (.lcmp, 1) := wtX2_numberIn_0.2.2.1
theorem dX2_numberIn_3 : decode cX2_numberIn 3 = .ok (.ifCond .le 8, 3) := wtX2_numberIn_0.2.2.2.1
theorem dX2_numberIn_6 : decode cX2_numberIn 6 = .ok (.iload_n 2, 1) := wtX2_numberIn_0.2.2.2.2.1
theorem dX2_numberIn_7 : decode cX2_numberIn 7 = .ok (.iconst 2, 1) := wtX2_numberIn_0.2.2.2.2.2.1
theorem dX2_numberIn_8 : decode cX2_numberIn 8 = .ok (.if_icmp .ge 6, 3) := wtX2_numberIn_0.2.2.2.2.2.2.1
theorem dX2_numberIn_11 : decode cX2_numberIn 11 = .ok (.ldc 37, 2) := wtX2_numberIn_0.2.2.2.2.2.2.2.1
theorem dX2_numberIn_13 : decode cX2_numberIn 13 = .ok (.areturn, 1) := wtX2_numberIn_0.2.2.2.2.2.2.2.2.1
theorem dX2_numberIn_14 : decode cX2_numberIn 14 = .ok (.new 9, 3) := wtX2_numberIn_0.2.2.2.2.2.2.2.2.2.1
theorem dX2_numberIn_17 : decode cX2_numberIn 17 = .ok (.dup, 1) := wtX2_numberIn_0.2.2.2.2.2.2.2.2.2.2.1
theorem dX2_numberIn_18 : decode cX2_numberIn 18 = .ok (.invokespecial 11, 3) := wtX2_numberIn_0.2.2.2.2.2.2.2.2.2.2.2.1
theorem dX2_numberIn_21 : decode cX2_numberIn 21 = .ok (.astore_n 3, 1) := wtX2_numberIn_0.2.2.2.2.2.2.2.2.2.2.2.2.1
theorem dX2_numberIn_22 : decode cX2_numberIn 22 = .ok (.lload_n 0, 1) := wtX2_numberIn_0.2.2.2.2.2.2.2.2.2.2.2.2.2.1
theorem dX2_numberIn_23 : decode cX2_numberIn 23 = .ok (.lstore 4, 2) := wtX2_numberIn_0.2.2.2.2.2.2.2.2.2.2.2.2.2.2.1
theorem wtX2_numberIn_25 : dwcj cX2_numberIn 25 [(0, .iconst 0, 1), (1, .istore 6, 2), (3, .iload 6, 2), (5, .bipush 64, 2), (7, .if_icmp .ge 37, 3), (10, .lload 4, 2), (12, .lconst 0, 1), (13, .lcmp, 1), (14, .ifCond .le 30, 3), (17, .aload_n 3, 1), (18, .lload 4, 2), (20, .iload_n 2, 1), (21, .i2l, 1), (22, .lrem, 1), (23, .l2i, 1)] := dw_all (l := [3, 54, 6, 21, 6, 16, 64, 162, 0, 37, 22, 4, 9, 148, 158, 0, 30, 45, 22, 4, 28, 133, 113, 136]) (by decide +kernel)
theorem dX2_numberIn_25 : decode cX2_numberIn 25 = .ok (.iconst 0, 1) := wtX2_numberIn_25.1
theorem dX2_numberIn_26 : decode cX2_numberIn 26 = .ok (.istore 6, 2) := wtX2_numberIn_25.2.1
theorem dX2_numberIn_28 : decode cX2_numberIn 28 = .ok (.iload 6, 2) := wtX2_numberIn_25.2.2.1
theorem dX2_numberIn_30 : decode cX2_numberIn 30 = .ok (.bipush 64, 2) := wtX2_numberIn_25.2.2.2.1
theorem dX2_numberIn_32 : decode cX2_numberIn 32 = .ok (.if_icmp .ge 37, 3) := wtX2_numberIn_25.2.2.2.2.1
theorem dX2_numberIn_35 : decode cX2_numberIn 35 = .ok (.lload 4, 2) := wtX2_numberIn_25.2.2.2.2.2.1
theorem dX2_numberIn_37 : decode cX2_numberIn 37 = .ok (.lconst 0, 1) := wtX2_numberIn_25.2.2.2.2.2.2.1
theorem dX2_numberIn_38 : decode cX2_numberIn 38 = .ok (.lcmp, 1) := wtX2_numberIn_25.2.2.2.2.2.2.2.1
theorem dX2_numberIn_39 : decode cX2_numberIn 39 = .ok (.ifCond .le 30, 3) := wtX2_numberIn_25.2.2.2.2.2.2.2.2.1
theorem dX2_numberIn_42 : decode cX2_numberIn 42 = .ok (.aload_n 3, 1) := wtX2_numberIn_25.2.2.2.2.2.2.2.2.2.1
theorem dX2_numberIn_43 : decode cX2_numberIn 43 = .ok (.lload 4, 2) := wtX2_numberIn_25.2.2.2.2.2.2.2.2.2.2.1
theorem dX2_numberIn_45 : decode cX2_numberIn 45 = .ok (.iload_n 2, 1) := wtX2_numberIn_25.2.2.2.2.2.2.2.2.2.2.2.1
theorem dX2_numberIn_46 : decode cX2_numberIn 46 = .ok (.i2l, 1) := wtX2_numberIn_25.2.2.2.2.2.2.2.2.2.2.2.2.1
theorem dX2_numberIn_47 : decode cX2_numberIn 47 = .ok (.lrem, 1) := wtX2_numberIn_25.2.2.2.2.2.2.2.2.2.2.2.2.2.1
theorem dX2_numberIn_48 : decode cX2_numberIn 48 = .ok (.l2i, 1) := wtX2_numberIn_25.2.2.2.2.2.2.2.2.2.2.2.2.2.2.1
theorem wtX2_numberIn_49 : dwcj cX2_numberIn 49 [(0, .invokestatic 39, 3), (3, .invokevirtual 26, 3), (6, .pop, 1), (7, .lload 4, 2), (9, .iload_n 2, 1), (10, .i2l, 1), (11, .ldiv, 1), (12, .lstore 4, 2), (14, .iinc 6 1, 3), (17, .goto (-38), 3), (20, .aload_n 3, 1), (21, .invokevirtual 45, 3)] := dw_all (l := [184, 0, 39, 182, 0, 26, 87, 22, 4, 28, 133, 109, 55, 4, 132, 6, 1, 167, 255, 218, 45, 182, 0, 45]) (by decide +kernel)
theorem dX2_numberIn_49 : decode cX2_numberIn 49 = .ok (.invokestatic 39, 3) := wtX2_numberIn_49.1
theorem dX2_numberIn_52 : decode cX2_numberIn 52 = .ok (.invokevirtual 26, 3) := wtX2_numberIn_49.2.1
theorem dX2_numberIn_55 : decode cX2_numberIn 55 = .ok (.pop, 1) := wtX2_numberIn_49.2.2.1
theorem dX2_numberIn_56 : decode cX2_numberIn 56 = .ok (.lload 4, 2) := wtX2_numberIn_49.2.2.2.1
theorem dX2_numberIn_58 : decode cX2_numberIn 58 = .ok (.iload_n 2, 1) := wtX2_numberIn_49.2.2.2.2.1
theorem dX2_numberIn_59 : decode cX2_numberIn 59 = .ok (.i2l, 1) := wtX2_numberIn_49.2.2.2.2.2.1
theorem dX2_numberIn_60 : decode cX2_numberIn 60 = .ok (.ldiv, 1) := wtX2_numberIn_49.2.2.2.2.2.2.1
theorem dX2_numberIn_61 : decode cX2_numberIn 61 = .ok (.lstore 4, 2) := wtX2_numberIn_49.2.2.2.2.2.2.2.1
theorem dX2_numberIn_63 : decode cX2_numberIn 63 = .ok (.iinc 6 1, 3) := wtX2_numberIn_49.2.2.2.2.2.2.2.2.1
theorem dX2_numberIn_66 : decode cX2_numberIn 66 = .ok (.goto (-38), 3) := wtX2_numberIn_49.2.2.2.2.2.2.2.2.2.1
theorem dX2_numberIn_69 : decode cX2_numberIn 69 = .ok (.aload_n 3, 1) := wtX2_numberIn_49.2.2.2.2.2.2.2.2.2.2.1
theorem dX2_numberIn_70 : decode cX2_numberIn 70 = .ok (.invokevirtual 45, 3) := wtX2_numberIn_49.2.2.2.2.2.2.2.2.2.2.2.1
theorem wtX2_numberIn_73 : dwcj cX2_numberIn 73 [(0, .invokevirtual 33, 3), (3, .areturn, 1)] := dw_all (l := [182, 0, 33, 176]) (by decide +kernel)
theorem dX2_numberIn_73 : decode cX2_numberIn 73 = .ok (.invokevirtual 33, 3) := wtX2_numberIn_73.1
theorem dX2_numberIn_76 : decode cX2_numberIn 76 = .ok (.areturn, 1) := wtX2_numberIn_73.2.1
theorem wtX2_signOf_0 : dwcj cX2_signOf 0 [(0, .iload_n 0, 1), (1, .bipush 10, 2), (3, .if_icmp .ge 10, 3), (6, .bipush 48, 2), (8, .iload_n 0, 1), (9, .iadd, 1), (10, .goto 10, 3), (13, .bipush 97, 2), (15, .iload_n 0, 1), (16, .bipush 10, 2), (18, .isub, 1), (19, .iadd, 1), (20, .i2c, 1), (21, .ireturn, 1)] := dw_all (l := [26, 16, 10, 162, 0, 10, 16, 48, 26, 96, 167, 0, 10, 16, 97, 26, 16, 10, 100, 96, 146, 172]) (by decide +kernel)
theorem dX2_signOf_0 : decode cX2_signOf 0 = .ok (.iload_n 0, 1) := wtX2_signOf_0.1
theorem dX2_signOf_1 : decode cX2_signOf 1 = .ok (.bipush 10, 2) := wtX2_signOf_0.2.1
theorem dX2_signOf_3 : decode cX2_signOf 3 = .ok (.if_icmp .ge 10, 3) := wtX2_signOf_0.2.2.1
theorem dX2_signOf_6 : decode cX2_signOf 6 = .ok (.bipush 48, 2) := wtX2_signOf_0.2.2.2.1
theorem dX2_signOf_8 : decode cX2_signOf 8 = .ok (.iload_n 0, 1) := wtX2_signOf_0.2.2.2.2.1
theorem dX2_signOf_9 : decode cX2_signOf 9 = .ok (.iadd, 1) := wtX2_signOf_0.2.2.2.2.2.1
theorem dX2_signOf_10 : decode cX2_signOf 10 = .ok (.goto 10, 3) := wtX2_signOf_0.2.2.2.2.2.2.1
theorem dX2_signOf_13 : decode cX2_signOf 13 = .ok (.bipush 97, 2) := wtX2_signOf_0.2.2.2.2.2.2.2.1
theorem dX2_signOf_15 : decode cX2_signOf 15 = .ok (.iload_n 0, 1) := wtX2_signOf_0.2.2.2.2.2.2.2.2.1
theorem dX2_signOf_16 : decode cX2_signOf 16 = .ok (.bipush 10, 2) := wtX2_signOf_0.2.2.2.2.2.2.2.2.2.1
theorem dX2_signOf_18 : decode cX2_signOf 18 = .ok (.isub, 1) := wtX2_signOf_0.2.2.2.2.2.2.2.2.2.2.1
theorem dX2_signOf_19 : decode cX2_signOf 19 = .ok (.iadd, 1) := wtX2_signOf_0.2.2.2.2.2.2.2.2.2.2.2.1
theorem dX2_signOf_20 : decode cX2_signOf 20 = .ok (.i2c, 1) := wtX2_signOf_0.2.2.2.2.2.2.2.2.2.2.2.2.1
theorem dX2_signOf_21 : decode cX2_signOf 21 = .ok (.ireturn, 1) := wtX2_signOf_0.2.2.2.2.2.2.2.2.2.2.2.2.2.1
theorem wtX3_init_0 : dwcj cX3_init 0 [(0, .aload_n 0, 1), (1, .invokespecial 1, 3), (4, .aload_n 0, 1), (5, .bipush 6, 2)] := dw_all (l := [42, 183, 0, 1, 42, 16, 6]) (by decide +kernel)
theorem dX3_init_0 : decode cX3_init 0 = .ok (.aload_n 0, 1) := wtX3_init_0.1
theorem dX3_init_1 : decode cX3_init 1 = .ok (.invokespecial 1, 3) := wtX3_init_0.2.1
theorem dX3_init_4 : decode cX3_init 4 = .ok (.aload_n 0, 1) := wtX3_init_0.2.2.1
theorem dX3_init_5 : decode cX3_init 5 = .ok (.bipush 6, 2) := wtX3_init_0.2.2.2.1
theorem dX3_init_7 : decode cX3_init 7 = .ok (.newarray .long, 2) := by decide +kernel
theorem wtX3_init_9 : dwcj cX3_init 9 [(0, .putfield 9, 3), (3, .aload_n 0, 1), (4, .iconst 0, 1), (5, .putfield 13, 3), (8, .aload_n 0, 1), (9, .iconst 0, 1), (10, .putfield 17, 3), (13, .aload_n 0, 1), (14, .iconst 0, 1), (15, .putfield 20, 3), (18, .return_, 1)] := dw_all (l := [181, 0, 9, 42, 3, 181, 0, 13, 42, 3, 181, 0, 17, 42, 3, 181, 0, 20, 177]) (by decide +kernel)
theorem dX3_init_9 : decode cX3_init 9 = .ok (.putfield 9, 3) := wtX3_init_9.1
theorem dX3_init_12 : decode cX3_init 12 = .ok (.aload_n 0, 1) := wtX3_init_9.2.1
theorem dX3_init_13 : decode cX3_init 13 = .ok (.iconst 0, 1) := wtX3_init_9.2.2.1
theorem dX3_init_14 : decode cX3_init 14 = .ok (.putfield 13, 3) := wtX3_init_9.2.2.2.1
theorem dX3_init_17 : decode cX3_init 17 = .ok (.aload_n 0, 1) := wtX3_init_9.2.2.2.2.1
theorem dX3_init_18 : decode cX3_init 18 = .ok (.iconst 0, 1) := wtX3_init_9.2.2.2.2.2.1
theorem dX3_init_19 : decode cX3_init 19 = .ok (.putfield 17, 3) := wtX3_init_9.2.2.2.2.2.2.1
theorem dX3_init_22 : decode cX3_init 22 = .ok (.aload_n 0, 1) := wtX3_init_9.2.2.2.2.2.2.2.1
theorem dX3_init_23 : decode cX3_init 23 = .ok (.iconst 0, 1) := wtX3_init_9.2.2.2.2.2.2.2.2.1
theorem dX3_init_24 : decode cX3_init 24 = .ok (.putfield 20, 3) := wtX3_init_9.2.2.2.2.2.2.2.2.2.1
theorem dX3_init_27 : decode cX3_init 27 = .ok (.return_, 1) := wtX3_init_9.2.2.2.2.2.2.2.2.2.2.1
theorem wtX3_put_0 : dwcj cX3_put 0 [(0, .aload_n 0, 1), (1, .iload_n 1, 1), (2, .invokevirtual 23, 3), (5, .aload_n 0, 1), (6, .iload_n 1, 1), (7, .iload_n 2, 1), (8, .i2l, 1), (9, .ldc2_w 27, 3), (12, .land, 1), (13, .invokevirtual 29, 3), (16, .ireturn, 1)] := dw_all (l := [42, 27, 182, 0, 23, 42, 27, 28, 133, 20, 0, 27, 127, 182, 0, 29, 172]) (by decide +kernel)
theorem dX3_put_0 : decode cX3_put 0 = .ok (.aload_n 0, 1) := wtX3_put_0.1
theorem dX3_put_1 : decode cX3_put 1 = .ok (.iload_n 1, 1) := wtX3_put_0.2.1
theorem dX3_put_2 : decode cX3_put 2 = .ok (.invokevirtual 23, 3) := wtX3_put_0.2.2.1
theorem dX3_put_5 : decode cX3_put 5 = .ok (.aload_n 0, 1) := wtX3_put_0.2.2.2.1
theorem dX3_put_6 : decode cX3_put 6 = .ok (.iload_n 1, 1) := wtX3_put_0.2.2.2.2.1
theorem dX3_put_7 : decode cX3_put 7 = .ok (.iload_n 2, 1) := wtX3_put_0.2.2.2.2.2.1
theorem dX3_put_8 : decode cX3_put 8 = .ok (.i2l, 1) := wtX3_put_0.2.2.2.2.2.2.1
theorem dX3_put_9 : decode cX3_put 9 = .ok (.ldc2_w 27, 3) := wtX3_put_0.2.2.2.2.2.2.2.1
theorem dX3_put_12 : decode cX3_put 12 = .ok (.land, 1) := wtX3_put_0.2.2.2.2.2.2.2.2.1
theorem dX3_put_13 : decode cX3_put 13 = .ok (.invokevirtual 29, 3) := wtX3_put_0.2.2.2.2.2.2.2.2.2.1
theorem dX3_put_16 : decode cX3_put 16 = .ok (.ireturn, 1) := wtX3_put_0.2.2.2.2.2.2.2.2.2.2.1
theorem wtX3_mono_0 : dwcj cX3_mono 0 [(0, .aload_n 0, 1), (1, .iload_n 1, 1), (2, .invokevirtual 23, 3), (5, .iload_n 2, 1), (6, .iconst 0, 1), (7, .bipush 32, 2), (9, .invokestatic 33, 3), (12, .aload_n 0, 1), (13, .iload_n 1, 1), (14, .iload_n 2, 1), (15, .invokestatic 37, 3), (18, .invokevirtual 29, 3), (21, .ireturn, 1)] := dw_all (l := [42, 27, 182, 0, 23, 28, 3, 16, 32, 184, 0, 33, 42, 27, 28, 184, 0, 37, 182, 0, 29, 172]) (by decide +kernel)
theorem dX3_mono_0 : decode cX3_mono 0 = .ok (.aload_n 0, 1) := wtX3_mono_0.1
theorem dX3_mono_1 : decode cX3_mono 1 = .ok (.iload_n 1, 1) := wtX3_mono_0.2.1
theorem dX3_mono_2 : decode cX3_mono 2 = .ok (.invokevirtual 23, 3) := wtX3_mono_0.2.2.1
theorem dX3_mono_5 : decode cX3_mono 5 = .ok (.iload_n 2, 1) := wtX3_mono_0.2.2.2.1
theorem dX3_mono_6 : decode cX3_mono 6 = .ok (.iconst 0, 1) := wtX3_mono_0.2.2.2.2.1
theorem dX3_mono_7 : decode cX3_mono 7 = .ok (.bipush 32, 2) := wtX3_mono_0.2.2.2.2.2.1
theorem dX3_mono_9 : decode cX3_mono 9 = .ok (.invokestatic 33, 3) := wtX3_mono_0.2.2.2.2.2.2.1
theorem dX3_mono_12 : decode cX3_mono 12 = .ok (.aload_n 0, 1) := wtX3_mono_0.2.2.2.2.2.2.2.1
theorem dX3_mono_13 : decode cX3_mono 13 = .ok (.iload_n 1, 1) := wtX3_mono_0.2.2.2.2.2.2.2.2.1
theorem dX3_mono_14 : decode cX3_mono 14 = .ok (.iload_n 2, 1) := wtX3_mono_0.2.2.2.2.2.2.2.2.2.1
theorem dX3_mono_15 : decode cX3_mono 15 = .ok (.invokestatic 37, 3) := wtX3_mono_0.2.2.2.2.2.2.2.2.2.2.1
theorem dX3_mono_18 : decode cX3_mono 18 = .ok (.invokevirtual 29, 3) := wtX3_mono_0.2.2.2.2.2.2.2.2.2.2.2.1
theorem dX3_mono_21 : decode cX3_mono 21 = .ok (.ireturn, 1) := wtX3_mono_0.2.2.2.2.2.2.2.2.2.2.2.2.1
theorem wtX3_digit_0 : dwcj cX3_digit 0 [(0, .aload_n 0, 1), (1, .iload_n 1, 1), (2, .invokevirtual 43, 3), (5, .lstore 4, 2), (7, .iload_n 2, 1), (8, .iconst 0, 1), (9, .bipush 32, 2), (11, .invokestatic 33, 3), (14, .aload_n 0, 1), (15, .iload_n 1, 1), (16, .iload_n 3, 1), (17, .ifCond .eq 13, 3), (20, .lload 4, 2), (22, .iload_n 2, 1), (23, .invokestatic 37, 3)] := dw_all (l := [42, 27, 182, 0, 43, 55, 4, 28, 3, 16, 32, 184, 0, 33, 42, 27, 29, 153, 0, 13, 22, 4, 28, 184, 0, 37]) (by decide +kernel)
theorem dX3_digit_0 : decode cX3_digit 0 = .ok (.aload_n 0, 1) := wtX3_digit_0.1
theorem dX3_digit_1 : decode cX3_digit 1 = .ok (.iload_n 1, 1) := wtX3_digit_0.2.1
theorem dX3_digit_2 : decode cX3_digit 2 = .ok (.invokevirtual 43, 3) := wtX3_digit_0.2.2.1
theorem dX3_digit_5 : decode cX3_digit 5 = .ok (.lstore 4, 2) := wtX3_digit_0.2.2.2.1
theorem dX3_digit_7 : decode cX3_digit 7 = .ok (.iload_n 2, 1) := wtX3_digit_0.2.2.2.2.1
theorem dX3_digit_8 : decode cX3_digit 8 = .ok (.iconst 0, 1) := wtX3_digit_0.2.2.2.2.2.1
theorem dX3_digit_9 : decode cX3_digit 9 = .ok (.bipush 32, 2) := wtX3_digit_0.2.2.2.2.2.2.1
theorem dX3_digit_11 : decode cX3_digit 11 = .ok (.invokestatic 33, 3) := wtX3_digit_0.2.2.2.2.2.2.2.1
theorem dX3_digit_14 : decode cX3_digit 14 = .ok (.aload_n 0, 1) := wtX3_digit_0.2.2.2.2.2.2.2.2.1
theorem dX3_digit_15 : decode cX3_digit 15 = .ok (.iload_n 1, 1) := wtX3_digit_0.2.2.2.2.2.2.2.2.2.1
theorem dX3_digit_16 : decode cX3_digit 16 = .ok (.iload_n 3, 1) := wtX3_digit_0.2.2.2.2.2.2.2.2.2.2.1
theorem dX3_digit_17 : decode cX3_digit 17 = .ok (.ifCond .eq 13, 3) := wtX3_digit_0.2.2.2.2.2.2.2.2.2.2.2.1
theorem dX3_digit_20 : decode cX3_digit 20 = .ok (.lload 4, 2) := wtX3_digit_0.2.2.2.2.2.2.2.2.2.2.2.2.1
theorem dX3_digit_22 : decode cX3_digit 22 = .ok (.iload_n 2, 1) := wtX3_digit_0.2.2.2.2.2.2.2.2.2.2.2.2.2.1
theorem dX3_digit_23 : decode cX3_digit 23 = .ok (.invokestatic 37, 3) := wtX3_digit_0.2.2.2.2.2.2.2.2.2.2.2.2.2.2.1
theorem wtX3_digit_26 : dwcj cX3_digit 26 [(0, .lor, 1), (1, .goto 14, 3), (4, .lload 4, 2), (6, .iload_n 2, 1), (7, .invokestatic 37, 3), (10, .ldc2_w 46, 3), (13, .lxor, 1), (14, .land, 1), (15, .invokevirtual 29, 3), (18, .pop, 1), (19, .lload 4, 2), (21, .iload_n 2, 1), (22, .invokestatic 48, 3)] := dw_all (l := [129, 167, 0, 14, 22, 4, 28, 184, 0, 37, 20, 0, 46, 131, 127, 182, 0, 29, 87, 22, 4, 28, 184, 0, 48]) (by decide +kernel)
theorem dX3_digit_26 : decode cX3_digit 26 = .ok (.lor, 1) := wtX3_digit_26.1
theorem dX3_digit_27 : decode cX3_digit 27 = .ok (.goto 14, 3) := wtX3_digit_26.2.1
theorem dX3_digit_30 : decode cX3_digit 30 = .ok (.lload 4, 2) := wtX3_digit_26.2.2.1
theorem dX3_digit_32 : decode cX3_digit 32 = .ok (.iload_n 2, 1) := wtX3_digit_26.2.2.2.1
theorem dX3_digit_33 : decode cX3_digit 33 = .ok (.invokestatic 37, 3) := wtX3_digit_26.2.2.2.2.1
theorem dX3_digit_36 : decode cX3_digit 36 = .ok (.ldc2_w 46, 3) := wtX3_digit_26.2.2.2.2.2.1
theorem dX3_digit_39 : decode cX3_digit 39 = .ok (.lxor, 1) := wtX3_digit_26.2.2.2.2.2.2.1
theorem dX3_digit_40 : decode cX3_digit 40 = .ok (.land, 1) := wtX3_digit_26.2.2.2.2.2.2.2.1
theorem dX3_digit_41 : decode cX3_digit 41 = .ok (.invokevirtual 29, 3) := wtX3_digit_26.2.2.2.2.2.2.2.2.1
theorem dX3_digit_44 : decode cX3_digit 44 = .ok (.pop, 1) := wtX3_digit_26.2.2.2.2.2.2.2.2.2.1
theorem dX3_digit_45 : decode cX3_digit 45 = .ok (.lload 4, 2) := wtX3_digit_26.2.2.2.2.2.2.2.2.2.2.1
theorem dX3_digit_47 : decode cX3_digit 47 = .ok (.iload_n 2, 1) := wtX3_digit_26.2.2.2.2.2.2.2.2.2.2.2.1
theorem dX3_digit_48 : decode cX3_digit 48 = .ok (.invokestatic 48, 3) := wtX3_digit_26.2.2.2.2.2.2.2.2.2.2.2.2.1
theorem wtX3_digit_51 : dwcj cX3_digit 51 [(0, .ireturn, 1)] := dw_all (l := [172]) (by decide +kernel)
theorem dX3_digit_51 : decode cX3_digit 51 = .ok (.ireturn, 1) := wtX3_digit_51.1
theorem wtX3_flip_0 : dwcj cX3_flip 0 [(0, .aload_n 0, 1), (1, .iload_n 1, 1), (2, .invokevirtual 43, 3), (5, .lstore_n 3, 1), (6, .iload_n 2, 1), (7, .iconst 0, 1), (8, .bipush 32, 2), (10, .invokestatic 33, 3), (13, .aload_n 0, 1), (14, .iload_n 1, 1), (15, .lload_n 3, 1), (16, .iload_n 2, 1), (17, .invokestatic 37, 3), (20, .lxor, 1), (21, .invokevirtual 29, 3)] := dw_all (l := [42, 27, 182, 0, 43, 66, 28, 3, 16, 32, 184, 0, 33, 42, 27, 33, 28, 184, 0, 37, 131, 182, 0, 29]) (by decide +kernel)
theorem dX3_flip_0 : decode cX3_flip 0 = .ok (.aload_n 0, 1) := wtX3_flip_0.1
theorem dX3_flip_1 : decode cX3_flip 1 = .ok (.iload_n 1, 1) := wtX3_flip_0.2.1
theorem dX3_flip_2 : decode cX3_flip 2 = .ok (.invokevirtual 43, 3) := wtX3_flip_0.2.2.1
theorem dX3_flip_5 : decode cX3_flip 5 = .ok (.lstore_n 3, 1) := wtX3_flip_0.2.2.2.1
theorem dX3_flip_6 : decode cX3_flip 6 = .ok (.iload_n 2, 1) := wtX3_flip_0.2.2.2.2.1
theorem dX3_flip_7 : decode cX3_flip 7 = .ok (.iconst 0, 1) := wtX3_flip_0.2.2.2.2.2.1
theorem dX3_flip_8 : decode cX3_flip 8 = .ok (.bipush 32, 2) := wtX3_flip_0.2.2.2.2.2.2.1
theorem dX3_flip_10 : decode cX3_flip 10 = .ok (.invokestatic 33, 3) := wtX3_flip_0.2.2.2.2.2.2.2.1
theorem dX3_flip_13 : decode cX3_flip 13 = .ok (.aload_n 0, 1) := wtX3_flip_0.2.2.2.2.2.2.2.2.1
theorem dX3_flip_14 : decode cX3_flip 14 = .ok (.iload_n 1, 1) := wtX3_flip_0.2.2.2.2.2.2.2.2.2.1
theorem dX3_flip_15 : decode cX3_flip 15 = .ok (.lload_n 3, 1) := wtX3_flip_0.2.2.2.2.2.2.2.2.2.2.1
theorem dX3_flip_16 : decode cX3_flip 16 = .ok (.iload_n 2, 1) := wtX3_flip_0.2.2.2.2.2.2.2.2.2.2.2.1
theorem dX3_flip_17 : decode cX3_flip 17 = .ok (.invokestatic 37, 3) := wtX3_flip_0.2.2.2.2.2.2.2.2.2.2.2.2.1
theorem dX3_flip_20 : decode cX3_flip 20 = .ok (.lxor, 1) := wtX3_flip_0.2.2.2.2.2.2.2.2.2.2.2.2.2.1
theorem dX3_flip_21 : decode cX3_flip 21 = .ok (.invokevirtual 29, 3) := wtX3_flip_0.2.2.2.2.2.2.2.2.2.2.2.2.2.2.1
theorem wtX3_flip_24 : dwcj cX3_flip 24 [(0, .pop, 1), (1, .lload_n 3, 1), (2, .iload_n 2, 1), (3, .invokestatic 48, 3), (6, .ifCond .ne 7, 3), (9, .iconst 1, 1), (10, .goto 4, 3), (13, .iconst 0, 1), (14, .ireturn, 1)] := dw_all (l := [87, 33, 28, 184, 0, 48, 154, 0, 7, 4, 167, 0, 4, 3, 172]) (by decide +kernel)
theorem dX3_flip_24 : decode cX3_flip 24 = .ok (.pop, 1) := wtX3_flip_24.1
theorem dX3_flip_25 : decode cX3_flip 25 = .ok (.lload_n 3, 1) := wtX3_flip_24.2.1
theorem dX3_flip_26 : decode cX3_flip 26 = .ok (.iload_n 2, 1) := wtX3_flip_24.2.2.1
theorem dX3_flip_27 : decode cX3_flip 27 = .ok (.invokestatic 48, 3) := wtX3_flip_24.2.2.2.1
theorem dX3_flip_30 : decode cX3_flip 30 = .ok (.ifCond .ne 7, 3) := wtX3_flip_24.2.2.2.2.1
theorem dX3_flip_33 : decode cX3_flip 33 = .ok (.iconst 1, 1) := wtX3_flip_24.2.2.2.2.2.1
theorem dX3_flip_34 : decode cX3_flip 34 = .ok (.goto 4, 3) := wtX3_flip_24.2.2.2.2.2.2.1
theorem dX3_flip_37 : decode cX3_flip 37 = .ok (.iconst 0, 1) := wtX3_flip_24.2.2.2.2.2.2.2.1
theorem dX3_flip_38 : decode cX3_flip 38 = .ok (.ireturn, 1) := wtX3_flip_24.2.2.2.2.2.2.2.2.1
theorem wtX3_copy_0 : dwcj cX3_copy 0 [(0, .aload_n 0, 1), (1, .iload_n 1, 1), (2, .invokevirtual 43, 3), (5, .lstore_n 3, 1), (6, .aload_n 0, 1), (7, .iload_n 2, 1), (8, .invokevirtual 23, 3), (11, .aload_n 0, 1), (12, .iload_n 2, 1), (13, .lload_n 3, 1), (14, .invokevirtual 29, 3), (17, .ireturn, 1)] := dw_all (l := [42, 27, 182, 0, 43, 66, 42, 28, 182, 0, 23, 42, 28, 33, 182, 0, 29, 172]) (by decide +kernel)
theorem dX3_copy_0 : decode cX3_copy 0 = .ok (.aload_n 0, 1) := wtX3_copy_0.1
theorem dX3_copy_1 : decode cX3_copy 1 = .ok (.iload_n 1, 1) := wtX3_copy_0.2.1
theorem dX3_copy_2 : decode cX3_copy 2 = .ok (.invokevirtual 43, 3) := wtX3_copy_0.2.2.1
theorem dX3_copy_5 : decode cX3_copy 5 = .ok (.lstore_n 3, 1) := wtX3_copy_0.2.2.2.1
theorem dX3_copy_6 : decode cX3_copy 6 = .ok (.aload_n 0, 1) := wtX3_copy_0.2.2.2.2.1
theorem dX3_copy_7 : decode cX3_copy 7 = .ok (.iload_n 2, 1) := wtX3_copy_0.2.2.2.2.2.1
theorem dX3_copy_8 : decode cX3_copy 8 = .ok (.invokevirtual 23, 3) := wtX3_copy_0.2.2.2.2.2.2.1
theorem dX3_copy_11 : decode cX3_copy 11 = .ok (.aload_n 0, 1) := wtX3_copy_0.2.2.2.2.2.2.2.1
theorem dX3_copy_12 : decode cX3_copy 12 = .ok (.iload_n 2, 1) := wtX3_copy_0.2.2.2.2.2.2.2.2.1
theorem dX3_copy_13 : decode cX3_copy 13 = .ok (.lload_n 3, 1) := wtX3_copy_0.2.2.2.2.2.2.2.2.2.1
theorem dX3_copy_14 : decode cX3_copy 14 = .ok (.invokevirtual 29, 3) := wtX3_copy_0.2.2.2.2.2.2.2.2.2.2.1
theorem dX3_copy_17 : decode cX3_copy 17 = .ok (.ireturn, 1) := wtX3_copy_0.2.2.2.2.2.2.2.2.2.2.2.1
theorem wtX3_swap_0 : dwcj cX3_swap 0 [(0, .aload_n 0, 1), (1, .iload_n 1, 1), (2, .invokevirtual 43, 3), (5, .lstore_n 3, 1), (6, .aload_n 0, 1), (7, .iload_n 2, 1), (8, .invokevirtual 43, 3), (11, .lstore 5, 2), (13, .aload_n 0, 1), (14, .getfield 9, 3), (17, .iload_n 1, 1), (18, .lload 5, 2), (20, .lastore, 1), (21, .aload_n 0, 1), (22, .getfield 9, 3)] := dw_all (l := [42, 27, 182, 0, 43, 66, 42, 28, 182, 0, 43, 55, 5, 42, 180, 0, 9, 27, 22, 5, 80, 42, 180, 0, 9]) (by decide +kernel)
theorem dX3_swap_0 : decode cX3_swap 0 = .ok (.aload_n 0, 1) := wtX3_swap_0.1
theorem dX3_swap_1 : decode cX3_swap 1 = .ok (.iload_n 1, 1) := wtX3_swap_0.2.1
theorem dX3_swap_2 : decode cX3_swap 2 = .ok (.invokevirtual 43, 3) := wtX3_swap_0.2.2.1
theorem dX3_swap_5 : decode cX3_swap 5 = .ok (.lstore_n 3, 1) := wtX3_swap_0.2.2.2.1
theorem dX3_swap_6 : decode cX3_swap 6 = .ok (.aload_n 0, 1) := wtX3_swap_0.2.2.2.2.1
theorem dX3_swap_7 : decode cX3_swap 7 = .ok (.iload_n 2, 1) := wtX3_swap_0.2.2.2.2.2.1
theorem dX3_swap_8 : decode cX3_swap 8 = .ok (.invokevirtual 43, 3) := wtX3_swap_0.2.2.2.2.2.2.1
theorem dX3_swap_11 : decode cX3_swap 11 = .ok (.lstore 5, 2) := wtX3_swap_0.2.2.2.2.2.2.2.1
theorem dX3_swap_13 : decode cX3_swap 13 = .ok (.aload_n 0, 1) := wtX3_swap_0.2.2.2.2.2.2.2.2.1
theorem dX3_swap_14 : decode cX3_swap 14 = .ok (.getfield 9, 3) := wtX3_swap_0.2.2.2.2.2.2.2.2.2.1
theorem dX3_swap_17 : decode cX3_swap 17 = .ok (.iload_n 1, 1) := wtX3_swap_0.2.2.2.2.2.2.2.2.2.2.1
theorem dX3_swap_18 : decode cX3_swap 18 = .ok (.lload 5, 2) := wtX3_swap_0.2.2.2.2.2.2.2.2.2.2.2.1
theorem dX3_swap_20 : decode cX3_swap 20 = .ok (.lastore, 1) := wtX3_swap_0.2.2.2.2.2.2.2.2.2.2.2.2.1
theorem dX3_swap_21 : decode cX3_swap 21 = .ok (.aload_n 0, 1) := wtX3_swap_0.2.2.2.2.2.2.2.2.2.2.2.2.2.1
theorem dX3_swap_22 : decode cX3_swap 22 = .ok (.getfield 9, 3) := wtX3_swap_0.2.2.2.2.2.2.2.2.2.2.2.2.2.2.1
theorem wtX3_swap_25 : dwcj cX3_swap 25 [(0, .iload_n 2, 1), (1, .lload_n 3, 1), (2, .lastore, 1), (3, .aload_n 0, 1), (4, .dup, 1), (5, .getfield 13, 3), (8, .iconst 1, 1), (9, .iadd, 1), (10, .putfield 13, 3), (13, .lload_n 3, 1), (14, .lload 5, 2), (16, .lcmp, 1), (17, .ifCond .ne 7, 3), (20, .iconst 0, 1), (21, .goto 4, 3)] := dw_all (l := [28, 33, 80, 42, 89, 180, 0, 13, 4, 96, 181, 0, 13, 33, 22, 5, 148, 154, 0, 7, 3, 167, 0, 4]) (by decide +kernel)
theorem dX3_swap_25 : decode cX3_swap 25 = .ok (.iload_n 2, 1) := wtX3_swap_25.1
theorem dX3_swap_26 : decode cX3_swap 26 = .ok (.lload_n 3, 1) := wtX3_swap_25.2.1
theorem dX3_swap_27 : decode cX3_swap 27 = .ok (.lastore, 1) := wtX3_swap_25.2.2.1
theorem dX3_swap_28 : decode cX3_swap 28 = .ok (.aload_n 0, 1) := wtX3_swap_25.2.2.2.1
theorem dX3_swap_29 : decode cX3_swap 29 = .ok (.dup, 1) := wtX3_swap_25.2.2.2.2.1
theorem dX3_swap_30 : decode cX3_swap 30 = .ok (.getfield 13, 3) := wtX3_swap_25.2.2.2.2.2.1
theorem dX3_swap_33 : decode cX3_swap 33 = .ok (.iconst 1, 1) := wtX3_swap_25.2.2.2.2.2.2.1
theorem dX3_swap_34 : decode cX3_swap 34 = .ok (.iadd, 1) := wtX3_swap_25.2.2.2.2.2.2.2.1
theorem dX3_swap_35 : decode cX3_swap 35 = .ok (.putfield 13, 3) := wtX3_swap_25.2.2.2.2.2.2.2.2.1
theorem dX3_swap_38 : decode cX3_swap 38 = .ok (.lload_n 3, 1) := wtX3_swap_25.2.2.2.2.2.2.2.2.2.1
theorem dX3_swap_39 : decode cX3_swap 39 = .ok (.lload 5, 2) := wtX3_swap_25.2.2.2.2.2.2.2.2.2.2.1
theorem dX3_swap_41 : decode cX3_swap 41 = .ok (.lcmp, 1) := wtX3_swap_25.2.2.2.2.2.2.2.2.2.2.2.1
theorem dX3_swap_42 : decode cX3_swap 42 = .ok (.ifCond .ne 7, 3) := wtX3_swap_25.2.2.2.2.2.2.2.2.2.2.2.2.1
theorem dX3_swap_45 : decode cX3_swap 45 = .ok (.iconst 0, 1) := wtX3_swap_25.2.2.2.2.2.2.2.2.2.2.2.2.2.1
theorem dX3_swap_46 : decode cX3_swap 46 = .ok (.goto 4, 3) := wtX3_swap_25.2.2.2.2.2.2.2.2.2.2.2.2.2.2.1
theorem wtX3_swap_49 : dwcj cX3_swap 49 [(0, .iconst 1, 1), (1, .ireturn, 1)] := dw_all (l := [4, 172]) (by decide +kernel)
theorem dX3_swap_49 : decode cX3_swap 49 = .ok (.iconst 1, 1) := wtX3_swap_49.1
theorem dX3_swap_50 : decode cX3_swap 50 = .ok (.ireturn, 1) := wtX3_swap_49.2.1
theorem wtX3_end_0 : dwcj cX3_end 0 [(0, .aload_n 0, 1), (1, .iload_n 1, 1), (2, .invokevirtual 43, 3), (5, .lstore 5, 2), (7, .aload_n 0, 1), (8, .iload_n 2, 1), (9, .invokevirtual 43, 3), (12, .lstore 7, 2), (14, .aload_n 0, 1), (15, .iload 4, 2), (17, .invokevirtual 23, 3), (20, .aload_n 0, 1), (21, .iload 4, 2), (23, .iload_n 3, 1)] := dw_all (l := [42, 27, 182, 0, 43, 55, 5, 42, 28, 182, 0, 43, 55, 7, 42, 21, 4, 182, 0, 23, 42, 21, 4, 29]) (by decide +kernel)
theorem dX3_end_0 : decode cX3_end 0 = .ok (.aload_n 0, 1) := wtX3_end_0.1
theorem dX3_end_1 : decode cX3_end 1 = .ok (.iload_n 1, 1) := wtX3_end_0.2.1
theorem dX3_end_2 : decode cX3_end 2 = .ok (.invokevirtual 43, 3) := wtX3_end_0.2.2.1
theorem dX3_end_5 : decode cX3_end 5 = .ok (.lstore 5, 2) := wtX3_end_0.2.2.2.1
theorem dX3_end_7 : decode cX3_end 7 = .ok (.aload_n 0, 1) := wtX3_end_0.2.2.2.2.1
theorem dX3_end_8 : decode cX3_end 8 = .ok (.iload_n 2, 1) := wtX3_end_0.2.2.2.2.2.1
theorem dX3_end_9 : decode cX3_end 9 = .ok (.invokevirtual 43, 3) := wtX3_end_0.2.2.2.2.2.2.1
theorem dX3_end_12 : decode cX3_end 12 = .ok (.lstore 7, 2) := wtX3_end_0.2.2.2.2.2.2.2.1
theorem dX3_end_14 : decode cX3_end 14 = .ok (.aload_n 0, 1) := wtX3_end_0.2.2.2.2.2.2.2.2.1
theorem dX3_end_15 : decode cX3_end 15 = .ok (.iload 4, 2) := wtX3_end_0.2.2.2.2.2.2.2.2.2.1
theorem dX3_end_17 : decode cX3_end 17 = .ok (.invokevirtual 23, 3) := wtX3_end_0.2.2.2.2.2.2.2.2.2.2.1
theorem dX3_end_20 : decode cX3_end 20 = .ok (.aload_n 0, 1) := wtX3_end_0.2.2.2.2.2.2.2.2.2.2.2.1
theorem dX3_end_21 : decode cX3_end 21 = .ok (.iload 4, 2) := wtX3_end_0.2.2.2.2.2.2.2.2.2.2.2.2.1
theorem dX3_end_23 : decode cX3_end 23 = .ok (.iload_n 3, 1) := wtX3_end_0.2.2.2.2.2.2.2.2.2.2.2.2.2.1
theorem wtX3_end_24 : dwcj cX3_end 24 [(0, .ifCond .eq 13, 3), (3, .lload 5, 2), (5, .lload 7, 2), (7, .invokestatic 52, 3), (10, .goto 10, 3), (13, .lload 5, 2), (15, .lload 7, 2), (17, .invokestatic 58, 3), (20, .invokevirtual 29, 3), (23, .ireturn, 1)] := dw_all (l := [153, 0, 13, 22, 5, 22, 7, 184, 0, 52, 167, 0, 10, 22, 5, 22, 7, 184, 0, 58, 182, 0, 29, 172]) (by decide +kernel)
theorem dX3_end_24 : decode cX3_end 24 = .ok (.ifCond .eq 13, 3) := wtX3_end_24.1
theorem dX3_end_27 : decode cX3_end 27 = .ok (.lload 5, 2) := wtX3_end_24.2.1
theorem dX3_end_29 : decode cX3_end 29 = .ok (.lload 7, 2) := wtX3_end_24.2.2.1
theorem dX3_end_31 : decode cX3_end 31 = .ok (.invokestatic 52, 3) := wtX3_end_24.2.2.2.1
theorem dX3_end_34 : decode cX3_end 34 = .ok (.goto 10, 3) := wtX3_end_24.2.2.2.2.1
theorem dX3_end_37 : decode cX3_end 37 = .ok (.lload 5, 2) := wtX3_end_24.2.2.2.2.2.1
theorem dX3_end_39 : decode cX3_end 39 = .ok (.lload 7, 2) := wtX3_end_24.2.2.2.2.2.2.1
theorem dX3_end_41 : decode cX3_end 41 = .ok (.invokestatic 58, 3) := wtX3_end_24.2.2.2.2.2.2.2.1
theorem dX3_end_44 : decode cX3_end 44 = .ok (.invokevirtual 29, 3) := wtX3_end_24.2.2.2.2.2.2.2.2.1
theorem dX3_end_47 : decode cX3_end 47 = .ok (.ireturn, 1) := wtX3_end_24.2.2.2.2.2.2.2.2.2.1
theorem wtX3_join_0 : dwcj cX3_join 0 [(0, .aload_n 0, 1), (1, .iload_n 1, 1), (2, .invokevirtual 43, 3), (5, .lstore 5, 2), (7, .aload_n 0, 1), (8, .iload_n 2, 1), (9, .invokevirtual 43, 3), (12, .lstore 7, 2), (14, .aload_n 0, 1), (15, .iload 4, 2), (17, .invokevirtual 23, 3), (20, .iload_n 3, 1), (21, .iconst 0, 1), (22, .iconst 3, 1), (23, .invokestatic 33, 3)] := dw_all (l := [42, 27, 182, 0, 43, 55, 5, 42, 28, 182, 0, 43, 55, 7, 42, 21, 4, 182, 0, 23, 29, 3, 6, 184, 0, 33]) (by decide +kernel)
theorem dX3_join_0 : decode cX3_join 0 = .ok (.aload_n 0, 1) := wtX3_join_0.1
theorem dX3_join_1 : decode cX3_join 1 = .ok (.iload_n 1, 1) := wtX3_join_0.2.1
theorem dX3_join_2 : decode cX3_join 2 = .ok (.invokevirtual 43, 3) := wtX3_join_0.2.2.1
theorem dX3_join_5 : decode cX3_join 5 = .ok (.lstore 5, 2) := wtX3_join_0.2.2.2.1
theorem dX3_join_7 : decode cX3_join 7 = .ok (.aload_n 0, 1) := wtX3_join_0.2.2.2.2.1
theorem dX3_join_8 : decode cX3_join 8 = .ok (.iload_n 2, 1) := wtX3_join_0.2.2.2.2.2.1
theorem dX3_join_9 : decode cX3_join 9 = .ok (.invokevirtual 43, 3) := wtX3_join_0.2.2.2.2.2.2.1
theorem dX3_join_12 : decode cX3_join 12 = .ok (.lstore 7, 2) := wtX3_join_0.2.2.2.2.2.2.2.1
theorem dX3_join_14 : decode cX3_join 14 = .ok (.aload_n 0, 1) := wtX3_join_0.2.2.2.2.2.2.2.2.1
theorem dX3_join_15 : decode cX3_join 15 = .ok (.iload 4, 2) := wtX3_join_0.2.2.2.2.2.2.2.2.2.1
theorem dX3_join_17 : decode cX3_join 17 = .ok (.invokevirtual 23, 3) := wtX3_join_0.2.2.2.2.2.2.2.2.2.2.1
theorem dX3_join_20 : decode cX3_join 20 = .ok (.iload_n 3, 1) := wtX3_join_0.2.2.2.2.2.2.2.2.2.2.2.1
theorem dX3_join_21 : decode cX3_join 21 = .ok (.iconst 0, 1) := wtX3_join_0.2.2.2.2.2.2.2.2.2.2.2.2.1
theorem dX3_join_22 : decode cX3_join 22 = .ok (.iconst 3, 1) := wtX3_join_0.2.2.2.2.2.2.2.2.2.2.2.2.2.1
theorem dX3_join_23 : decode cX3_join 23 = .ok (.invokestatic 33, 3) := wtX3_join_0.2.2.2.2.2.2.2.2.2.2.2.2.2.2.1
theorem wtX3_join_26 : dwcj cX3_join 26 [(0, .aload_n 0, 1), (1, .iload 4, 2), (3, .lload 5, 2), (5, .lload 7, 2), (7, .iload_n 3, 1), (8, .invokestatic 61, 3), (11, .invokevirtual 29, 3), (14, .ireturn, 1)] := dw_all (l := [42, 21, 4, 22, 5, 22, 7, 29, 184, 0, 61, 182, 0, 29, 172]) (by decide +kernel)
theorem dX3_join_26 : decode cX3_join 26 = .ok (.aload_n 0, 1) := wtX3_join_26.1
theorem dX3_join_27 : decode cX3_join 27 = .ok (.iload 4, 2) := wtX3_join_26.2.1
theorem dX3_join_29 : decode cX3_join 29 = .ok (.lload 5, 2) := wtX3_join_26.2.2.1
theorem dX3_join_31 : decode cX3_join 31 = .ok (.lload 7, 2) := wtX3_join_26.2.2.2.1
theorem dX3_join_33 : decode cX3_join 33 = .ok (.iload_n 3, 1) := wtX3_join_26.2.2.2.2.1
theorem dX3_join_34 : decode cX3_join 34 = .ok (.invokestatic 61, 3) := wtX3_join_26.2.2.2.2.2.1
theorem dX3_join_37 : decode cX3_join 37 = .ok (.invokevirtual 29, 3) := wtX3_join_26.2.2.2.2.2.2.1
theorem dX3_join_40 : decode cX3_join 40 = .ok (.ireturn, 1) := wtX3_join_26.2.2.2.2.2.2.2.1
theorem wtX3_times_0 : dwcj cX3_times 0 [(0, .aload_n 0, 1), (1, .iload_n 1, 1), (2, .invokevirtual 43, 3), (5, .lstore 4, 2), (7, .aload_n 0, 1), (8, .iload_n 2, 1), (9, .invokevirtual 43, 3), (12, .lstore 6, 2), (14, .aload_n 0, 1), (15, .iload_n 3, 1), (16, .invokevirtual 23, 3), (19, .aload_n 0, 1), (20, .iload_n 3, 1), (21, .lload 4, 2), (23, .lload 6, 2)] := dw_all (l := [42, 27, 182, 0, 43, 55, 4, 42, 28, 182, 0, 43, 55, 6, 42, 29, 182, 0, 23, 42, 29, 22, 4, 22, 6]) (by decide +kernel)
theorem dX3_times_0 : decode cX3_times 0 = .ok (.aload_n 0, 1) := wtX3_times_0.1
theorem dX3_times_1 : decode cX3_times 1 = .ok (.iload_n 1, 1) := wtX3_times_0.2.1
theorem dX3_times_2 : decode cX3_times 2 = .ok (.invokevirtual 43, 3) := wtX3_times_0.2.2.1
theorem dX3_times_5 : decode cX3_times 5 = .ok (.lstore 4, 2) := wtX3_times_0.2.2.2.1
theorem dX3_times_7 : decode cX3_times 7 = .ok (.aload_n 0, 1) := wtX3_times_0.2.2.2.2.1
theorem dX3_times_8 : decode cX3_times 8 = .ok (.iload_n 2, 1) := wtX3_times_0.2.2.2.2.2.1
theorem dX3_times_9 : decode cX3_times 9 = .ok (.invokevirtual 43, 3) := wtX3_times_0.2.2.2.2.2.2.1
theorem dX3_times_12 : decode cX3_times 12 = .ok (.lstore 6, 2) := wtX3_times_0.2.2.2.2.2.2.2.1
theorem dX3_times_14 : decode cX3_times 14 = .ok (.aload_n 0, 1) := wtX3_times_0.2.2.2.2.2.2.2.2.1
theorem dX3_times_15 : decode cX3_times 15 = .ok (.iload_n 3, 1) := wtX3_times_0.2.2.2.2.2.2.2.2.2.1
theorem dX3_times_16 : decode cX3_times 16 = .ok (.invokevirtual 23, 3) := wtX3_times_0.2.2.2.2.2.2.2.2.2.2.1
theorem dX3_times_19 : decode cX3_times 19 = .ok (.aload_n 0, 1) := wtX3_times_0.2.2.2.2.2.2.2.2.2.2.2.1
theorem dX3_times_20 : decode cX3_times 20 = .ok (.iload_n 3, 1) := wtX3_times_0.2.2.2.2.2.2.2.2.2.2.2.2.1
theorem dX3_times_21 : decode cX3_times 21 = .ok (.lload 4, 2) := wtX3_times_0.2.2.2.2.2.2.2.2.2.2.2.2.2.1
theorem dX3_times_23 : decode cX3_times 23 = .ok (.lload 6, 2) := wtX3_times_0.2.2.2.2.2.2.2.2.2.2.2.2.2.2.1
theorem wtX3_times_25 : dwcj cX3_times 25 [(0, .invokevirtual 65, 3), (3, .ireturn, 1)] := dw_all (l := [182, 0, 65, 172]) (by decide +kernel)
theorem dX3_times_25 : decode cX3_times 25 = .ok (.invokevirtual 65, 3) := wtX3_times_25.1
theorem dX3_times_28 : decode cX3_times 28 = .ok (.ireturn, 1) := wtX3_times_25.2.1
theorem wtX3_square_0 : dwcj cX3_square 0 [(0, .aload_n 0, 1), (1, .iload_n 1, 1), (2, .invokevirtual 43, 3), (5, .lstore_n 3, 1), (6, .aload_n 0, 1), (7, .iload_n 2, 1), (8, .invokevirtual 23, 3), (11, .aload_n 0, 1), (12, .iload_n 2, 1), (13, .lload_n 3, 1), (14, .lload_n 3, 1), (15, .invokevirtual 65, 3), (18, .ireturn, 1)] := dw_all (l := [42, 27, 182, 0, 43, 66, 42, 28, 182, 0, 23, 42, 28, 33, 33, 182, 0, 65, 172]) (by decide +kernel)
theorem dX3_square_0 : decode cX3_square 0 = .ok (.aload_n 0, 1) := wtX3_square_0.1
theorem dX3_square_1 : decode cX3_square 1 = .ok (.iload_n 1, 1) := wtX3_square_0.2.1
theorem dX3_square_2 : decode cX3_square 2 = .ok (.invokevirtual 43, 3) := wtX3_square_0.2.2.1
theorem dX3_square_5 : decode cX3_square 5 = .ok (.lstore_n 3, 1) := wtX3_square_0.2.2.2.1
theorem dX3_square_6 : decode cX3_square 6 = .ok (.aload_n 0, 1) := wtX3_square_0.2.2.2.2.1
theorem dX3_square_7 : decode cX3_square 7 = .ok (.iload_n 2, 1) := wtX3_square_0.2.2.2.2.2.1
theorem dX3_square_8 : decode cX3_square 8 = .ok (.invokevirtual 23, 3) := wtX3_square_0.2.2.2.2.2.2.1
theorem dX3_square_11 : decode cX3_square 11 = .ok (.aload_n 0, 1) := wtX3_square_0.2.2.2.2.2.2.2.1
theorem dX3_square_12 : decode cX3_square 12 = .ok (.iload_n 2, 1) := wtX3_square_0.2.2.2.2.2.2.2.2.1
theorem dX3_square_13 : decode cX3_square 13 = .ok (.lload_n 3, 1) := wtX3_square_0.2.2.2.2.2.2.2.2.2.1
theorem dX3_square_14 : decode cX3_square 14 = .ok (.lload_n 3, 1) := wtX3_square_0.2.2.2.2.2.2.2.2.2.2.1
theorem dX3_square_15 : decode cX3_square 15 = .ok (.invokevirtual 65, 3) := wtX3_square_0.2.2.2.2.2.2.2.2.2.2.2.1
theorem dX3_square_18 : decode cX3_square 18 = .ok (.ireturn, 1) := wtX3_square_0.2.2.2.2.2.2.2.2.2.2.2.2.1
theorem wtX3_shift_0 : dwcj cX3_shift 0 [(0, .aload_n 0, 1), (1, .iload_n 1, 1), (2, .invokevirtual 43, 3), (5, .lstore 4, 2), (7, .aload_n 0, 1), (8, .iload_n 3, 1), (9, .invokevirtual 23, 3), (12, .iload_n 2, 1), (13, .bipush (-32), 2), (15, .bipush 32, 2), (17, .invokestatic 33, 3), (20, .lload 4, 2), (22, .lconst 0, 1), (23, .lcmp, 1)] := dw_all (l := [42, 27, 182, 0, 43, 55, 4, 42, 29, 182, 0, 23, 28, 16, 224, 16, 32, 184, 0, 33, 22, 4, 9, 148]) (by decide +kernel)
theorem dX3_shift_0 : decode cX3_shift 0 = .ok (.aload_n 0, 1) := wtX3_shift_0.1
theorem dX3_shift_1 : decode cX3_shift 1 = .ok (.iload_n 1, 1) := wtX3_shift_0.2.1
theorem dX3_shift_2 : decode cX3_shift 2 = .ok (.invokevirtual 43, 3) := wtX3_shift_0.2.2.1
theorem dX3_shift_5 : decode cX3_shift 5 = .ok (.lstore 4, 2) := wtX3_shift_0.2.2.2.1
theorem dX3_shift_7 : decode cX3_shift 7 = .ok (.aload_n 0, 1) := wtX3_shift_0.2.2.2.2.1
theorem dX3_shift_8 : decode cX3_shift 8 = .ok (.iload_n 3, 1) := wtX3_shift_0.2.2.2.2.2.1
theorem dX3_shift_9 : decode cX3_shift 9 = .ok (.invokevirtual 23, 3) := wtX3_shift_0.2.2.2.2.2.2.1
theorem dX3_shift_12 : decode cX3_shift 12 = .ok (.iload_n 2, 1) := wtX3_shift_0.2.2.2.2.2.2.2.1
theorem dX3_shift_13 : decode cX3_shift 13 = .ok (.bipush (-32), 2) := wtX3_shift_0.2.2.2.2.2.2.2.2.1
theorem dX3_shift_15 : decode cX3_shift 15 = .ok (.bipush 32, 2) := wtX3_shift_0.2.2.2.2.2.2.2.2.2.1
theorem dX3_shift_17 : decode cX3_shift 17 = .ok (.invokestatic 33, 3) := wtX3_shift_0.2.2.2.2.2.2.2.2.2.2.1
theorem dX3_shift_20 : decode cX3_shift 20 = .ok (.lload 4, 2) := wtX3_shift_0.2.2.2.2.2.2.2.2.2.2.2.1
theorem dX3_shift_22 : decode cX3_shift 22 = .ok (.lconst 0, 1) := wtX3_shift_0.2.2.2.2.2.2.2.2.2.2.2.2.1
theorem dX3_shift_23 : decode cX3_shift 23 = .ok (.lcmp, 1) := wtX3_shift_0.2.2.2.2.2.2.2.2.2.2.2.2.2.1
theorem wtX3_shift_24 : dwcj cX3_shift 24 [(0, .ifCond .eq 20, 3), (3, .lload 4, 2), (5, .invokestatic 69, 3), (8, .iload_n 2, 1), (9, .iadd, 1), (10, .bipush 32, 2), (12, .if_icmp .le 8, 3), (15, .aload_n 0, 1), (16, .invokevirtual 73, 3), (19, .ireturn, 1), (20, .aload_n 0, 1), (21, .iload_n 3, 1), (22, .iload_n 2, 1), (23, .ifCond .lt 10, 3)] := dw_all (l := [153, 0, 20, 22, 4, 184, 0, 69, 28, 96, 16, 32, 164, 0, 8, 42, 182, 0, 73, 172, 42, 29, 28, 155, 0, 10]) (by decide +kernel)
theorem dX3_shift_24 : decode cX3_shift 24 = .ok (.ifCond .eq 20, 3) := wtX3_shift_24.1
theorem dX3_shift_27 : decode cX3_shift 27 = .ok (.lload 4, 2) := wtX3_shift_24.2.1
theorem dX3_shift_29 : decode cX3_shift 29 = .ok (.invokestatic 69, 3) := wtX3_shift_24.2.2.1
theorem dX3_shift_32 : decode cX3_shift 32 = .ok (.iload_n 2, 1) := wtX3_shift_24.2.2.2.1
theorem dX3_shift_33 : decode cX3_shift 33 = .ok (.iadd, 1) := wtX3_shift_24.2.2.2.2.1
theorem dX3_shift_34 : decode cX3_shift 34 = .ok (.bipush 32, 2) := wtX3_shift_24.2.2.2.2.2.1
theorem dX3_shift_36 : decode cX3_shift 36 = .ok (.if_icmp .le 8, 3) := wtX3_shift_24.2.2.2.2.2.2.1
theorem dX3_shift_39 : decode cX3_shift 39 = .ok (.aload_n 0, 1) := wtX3_shift_24.2.2.2.2.2.2.2.1
theorem dX3_shift_40 : decode cX3_shift 40 = .ok (.invokevirtual 73, 3) := wtX3_shift_24.2.2.2.2.2.2.2.2.1
theorem dX3_shift_43 : decode cX3_shift 43 = .ok (.ireturn, 1) := wtX3_shift_24.2.2.2.2.2.2.2.2.2.1
theorem dX3_shift_44 : decode cX3_shift 44 = .ok (.aload_n 0, 1) := wtX3_shift_24.2.2.2.2.2.2.2.2.2.2.1
theorem dX3_shift_45 : decode cX3_shift 45 = .ok (.iload_n 3, 1) := wtX3_shift_24.2.2.2.2.2.2.2.2.2.2.2.1
theorem dX3_shift_46 : decode cX3_shift 46 = .ok (.iload_n 2, 1) := wtX3_shift_24.2.2.2.2.2.2.2.2.2.2.2.2.1
theorem dX3_shift_47 : decode cX3_shift 47 = .ok (.ifCond .lt 10, 3) := wtX3_shift_24.2.2.2.2.2.2.2.2.2.2.2.2.2.1
theorem wtX3_shift_50 : dwcj cX3_shift 50 [(0, .lload 4, 2), (2, .iload_n 2, 1), (3, .lshl, 1), (4, .goto 8, 3), (7, .lload 4, 2), (9, .iload_n 2, 1), (10, .ineg, 1), (11, .lushr, 1), (12, .invokevirtual 29, 3), (15, .ireturn, 1)] := dw_all (l := [22, 4, 28, 121, 167, 0, 8, 22, 4, 28, 116, 125, 182, 0, 29, 172]) (by decide +kernel)
theorem dX3_shift_50 : decode cX3_shift 50 = .ok (.lload 4, 2) := wtX3_shift_50.1
theorem dX3_shift_52 : decode cX3_shift 52 = .ok (.iload_n 2, 1) := wtX3_shift_50.2.1
theorem dX3_shift_53 : decode cX3_shift 53 = .ok (.lshl, 1) := wtX3_shift_50.2.2.1
theorem dX3_shift_54 : decode cX3_shift 54 = .ok (.goto 8, 3) := wtX3_shift_50.2.2.2.1
theorem dX3_shift_57 : decode cX3_shift 57 = .ok (.lload 4, 2) := wtX3_shift_50.2.2.2.2.1
theorem dX3_shift_59 : decode cX3_shift 59 = .ok (.iload_n 2, 1) := wtX3_shift_50.2.2.2.2.2.1
theorem dX3_shift_60 : decode cX3_shift 60 = .ok (.ineg, 1) := wtX3_shift_50.2.2.2.2.2.2.1
theorem dX3_shift_61 : decode cX3_shift 61 = .ok (.lushr, 1) := wtX3_shift_50.2.2.2.2.2.2.2.1
theorem dX3_shift_62 : decode cX3_shift 62 = .ok (.invokevirtual 29, 3) := wtX3_shift_50.2.2.2.2.2.2.2.2.1
theorem dX3_shift_65 : decode cX3_shift 65 = .ok (.ireturn, 1) := wtX3_shift_50.2.2.2.2.2.2.2.2.2.1
theorem wtX3_quotient_0 : dwcj cX3_quotient 0 [(0, .aload_n 0, 1), (1, .iload_n 1, 1), (2, .invokevirtual 43, 3), (5, .lstore 4, 2), (7, .aload_n 0, 1), (8, .iload_n 2, 1), (9, .invokevirtual 43, 3), (12, .lstore 6, 2), (14, .aload_n 0, 1), (15, .iload_n 3, 1), (16, .invokevirtual 23, 3), (19, .lload 6, 2), (21, .lconst 0, 1), (22, .lcmp, 1), (23, .ifCond .ne 10, 3)] := dw_all (l := [42, 27, 182, 0, 43, 55, 4, 42, 28, 182, 0, 43, 55, 6, 42, 29, 182, 0, 23, 22, 6, 9, 148, 154, 0, 10]) (by decide +kernel)
theorem dX3_quotient_0 : decode cX3_quotient 0 = .ok (.aload_n 0, 1) := wtX3_quotient_0.1
theorem dX3_quotient_1 : decode cX3_quotient 1 = .ok (.iload_n 1, 1) := wtX3_quotient_0.2.1
theorem dX3_quotient_2 : decode cX3_quotient 2 = .ok (.invokevirtual 43, 3) := wtX3_quotient_0.2.2.1
theorem dX3_quotient_5 : decode cX3_quotient 5 = .ok (.lstore 4, 2) := wtX3_quotient_0.2.2.2.1
theorem dX3_quotient_7 : decode cX3_quotient 7 = .ok (.aload_n 0, 1) := wtX3_quotient_0.2.2.2.2.1
theorem dX3_quotient_8 : decode cX3_quotient 8 = .ok (.iload_n 2, 1) := wtX3_quotient_0.2.2.2.2.2.1
theorem dX3_quotient_9 : decode cX3_quotient 9 = .ok (.invokevirtual 43, 3) := wtX3_quotient_0.2.2.2.2.2.2.1
theorem dX3_quotient_12 : decode cX3_quotient 12 = .ok (.lstore 6, 2) := wtX3_quotient_0.2.2.2.2.2.2.2.1
theorem dX3_quotient_14 : decode cX3_quotient 14 = .ok (.aload_n 0, 1) := wtX3_quotient_0.2.2.2.2.2.2.2.2.1
theorem dX3_quotient_15 : decode cX3_quotient 15 = .ok (.iload_n 3, 1) := wtX3_quotient_0.2.2.2.2.2.2.2.2.2.1
theorem dX3_quotient_16 : decode cX3_quotient 16 = .ok (.invokevirtual 23, 3) := wtX3_quotient_0.2.2.2.2.2.2.2.2.2.2.1
theorem dX3_quotient_19 : decode cX3_quotient 19 = .ok (.lload 6, 2) := wtX3_quotient_0.2.2.2.2.2.2.2.2.2.2.2.1
theorem dX3_quotient_21 : decode cX3_quotient 21 = .ok (.lconst 0, 1) := wtX3_quotient_0.2.2.2.2.2.2.2.2.2.2.2.2.1
theorem dX3_quotient_22 : decode cX3_quotient 22 = .ok (.lcmp, 1) := wtX3_quotient_0.2.2.2.2.2.2.2.2.2.2.2.2.2.1
theorem dX3_quotient_23 : decode cX3_quotient 23 = .ok (.ifCond .ne 10, 3) := wtX3_quotient_0.2.2.2.2.2.2.2.2.2.2.2.2.2.2.1
theorem wtX3_quotient_26 : dwcj cX3_quotient 26 [(0, .aload_n 0, 1), (1, .invokevirtual 73, 3), (4, .goto 15, 3), (7, .aload_n 0, 1), (8, .iload_n 3, 1), (9, .lload 4, 2), (11, .lload 6, 2), (13, .invokestatic 77, 3), (16, .invokevirtual 29, 3), (19, .ireturn, 1)] := dw_all (l := [42, 182, 0, 73, 167, 0, 15, 42, 29, 22, 4, 22, 6, 184, 0, 77, 182, 0, 29, 172]) (by decide +kernel)
theorem dX3_quotient_26 : decode cX3_quotient 26 = .ok (.aload_n 0, 1) := wtX3_quotient_26.1
theorem dX3_quotient_27 : decode cX3_quotient 27 = .ok (.invokevirtual 73, 3) := wtX3_quotient_26.2.1
theorem dX3_quotient_30 : decode cX3_quotient 30 = .ok (.goto 15, 3) := wtX3_quotient_26.2.2.1
theorem dX3_quotient_33 : decode cX3_quotient 33 = .ok (.aload_n 0, 1) := wtX3_quotient_26.2.2.2.1
theorem dX3_quotient_34 : decode cX3_quotient 34 = .ok (.iload_n 3, 1) := wtX3_quotient_26.2.2.2.2.1
theorem dX3_quotient_35 : decode cX3_quotient 35 = .ok (.lload 4, 2) := wtX3_quotient_26.2.2.2.2.2.1
theorem dX3_quotient_37 : decode cX3_quotient 37 = .ok (.lload 6, 2) := wtX3_quotient_26.2.2.2.2.2.2.1
theorem dX3_quotient_39 : decode cX3_quotient 39 = .ok (.invokestatic 77, 3) := wtX3_quotient_26.2.2.2.2.2.2.2.1
theorem dX3_quotient_42 : decode cX3_quotient 42 = .ok (.invokevirtual 29, 3) := wtX3_quotient_26.2.2.2.2.2.2.2.2.1
theorem dX3_quotient_45 : decode cX3_quotient 45 = .ok (.ireturn, 1) := wtX3_quotient_26.2.2.2.2.2.2.2.2.2.1
theorem wtX3_rest_0 : dwcj cX3_rest 0 [(0, .aload_n 0, 1), (1, .iload_n 1, 1), (2, .invokevirtual 43, 3), (5, .lstore 4, 2), (7, .aload_n 0, 1), (8, .iload_n 2, 1), (9, .invokevirtual 43, 3), (12, .lstore 6, 2), (14, .aload_n 0, 1), (15, .iload_n 3, 1), (16, .invokevirtual 23, 3), (19, .lload 6, 2), (21, .lconst 0, 1), (22, .lcmp, 1), (23, .ifCond .ne 10, 3)] := dw_all (l := [42, 27, 182, 0, 43, 55, 4, 42, 28, 182, 0, 43, 55, 6, 42, 29, 182, 0, 23, 22, 6, 9, 148, 154, 0, 10]) (by decide +kernel)
theorem dX3_rest_0 : decode cX3_rest 0 = .ok (.aload_n 0, 1) := wtX3_rest_0.1
theorem dX3_rest_1 : decode cX3_rest 1 = .ok (.iload_n 1, 1) := wtX3_rest_0.2.1
theorem dX3_rest_2 : decode cX3_rest 2 = .ok (.invokevirtual 43, 3) := wtX3_rest_0.2.2.1
theorem dX3_rest_5 : decode cX3_rest 5 = .ok (.lstore 4, 2) := wtX3_rest_0.2.2.2.1
theorem dX3_rest_7 : decode cX3_rest 7 = .ok (.aload_n 0, 1) := wtX3_rest_0.2.2.2.2.1
theorem dX3_rest_8 : decode cX3_rest 8 = .ok (.iload_n 2, 1) := wtX3_rest_0.2.2.2.2.2.1
theorem dX3_rest_9 : decode cX3_rest 9 = .ok (.invokevirtual 43, 3) := wtX3_rest_0.2.2.2.2.2.2.1
theorem dX3_rest_12 : decode cX3_rest 12 = .ok (.lstore 6, 2) := wtX3_rest_0.2.2.2.2.2.2.2.1
theorem dX3_rest_14 : decode cX3_rest 14 = .ok (.aload_n 0, 1) := wtX3_rest_0.2.2.2.2.2.2.2.2.1
theorem dX3_rest_15 : decode cX3_rest 15 = .ok (.iload_n 3, 1) := wtX3_rest_0.2.2.2.2.2.2.2.2.2.1
theorem dX3_rest_16 : decode cX3_rest 16 = .ok (.invokevirtual 23, 3) := wtX3_rest_0.2.2.2.2.2.2.2.2.2.2.1
theorem dX3_rest_19 : decode cX3_rest 19 = .ok (.lload 6, 2) := wtX3_rest_0.2.2.2.2.2.2.2.2.2.2.2.1
theorem dX3_rest_21 : decode cX3_rest 21 = .ok (.lconst 0, 1) := wtX3_rest_0.2.2.2.2.2.2.2.2.2.2.2.2.1
theorem dX3_rest_22 : decode cX3_rest 22 = .ok (.lcmp, 1) := wtX3_rest_0.2.2.2.2.2.2.2.2.2.2.2.2.2.1
theorem dX3_rest_23 : decode cX3_rest 23 = .ok (.ifCond .ne 10, 3) := wtX3_rest_0.2.2.2.2.2.2.2.2.2.2.2.2.2.2.1
theorem wtX3_rest_26 : dwcj cX3_rest 26 [(0, .aload_n 0, 1), (1, .invokevirtual 73, 3), (4, .goto 15, 3), (7, .aload_n 0, 1), (8, .iload_n 3, 1), (9, .lload 4, 2), (11, .lload 6, 2), (13, .invokestatic 80, 3), (16, .invokevirtual 29, 3), (19, .ireturn, 1)] := dw_all (l := [42, 182, 0, 73, 167, 0, 15, 42, 29, 22, 4, 22, 6, 184, 0, 80, 182, 0, 29, 172]) (by decide +kernel)
theorem dX3_rest_26 : decode cX3_rest 26 = .ok (.aload_n 0, 1) := wtX3_rest_26.1
theorem dX3_rest_27 : decode cX3_rest 27 = .ok (.invokevirtual 73, 3) := wtX3_rest_26.2.1
theorem dX3_rest_30 : decode cX3_rest 30 = .ok (.goto 15, 3) := wtX3_rest_26.2.2.1
theorem dX3_rest_33 : decode cX3_rest 33 = .ok (.aload_n 0, 1) := wtX3_rest_26.2.2.2.1
theorem dX3_rest_34 : decode cX3_rest 34 = .ok (.iload_n 3, 1) := wtX3_rest_26.2.2.2.2.1
theorem dX3_rest_35 : decode cX3_rest 35 = .ok (.lload 4, 2) := wtX3_rest_26.2.2.2.2.2.1
theorem dX3_rest_37 : decode cX3_rest 37 = .ok (.lload 6, 2) := wtX3_rest_26.2.2.2.2.2.2.1
theorem dX3_rest_39 : decode cX3_rest 39 = .ok (.invokestatic 80, 3) := wtX3_rest_26.2.2.2.2.2.2.2.1
theorem dX3_rest_42 : decode cX3_rest 42 = .ok (.invokevirtual 29, 3) := wtX3_rest_26.2.2.2.2.2.2.2.2.1
theorem dX3_rest_45 : decode cX3_rest 45 = .ok (.ireturn, 1) := wtX3_rest_26.2.2.2.2.2.2.2.2.2.1
theorem wtX3_gcd_0 : dwcj cX3_gcd 0 [(0, .aload_n 0, 1), (1, .iload_n 1, 1), (2, .invokevirtual 43, 3), (5, .lstore 4, 2), (7, .aload_n 0, 1), (8, .iload_n 2, 1), (9, .invokevirtual 43, 3), (12, .lstore 6, 2), (14, .aload_n 0, 1), (15, .iload_n 3, 1), (16, .invokevirtual 23, 3), (19, .aload_n 0, 1), (20, .iload_n 3, 1), (21, .lload 4, 2), (23, .lload 6, 2)] := dw_all (l := [42, 27, 182, 0, 43, 55, 4, 42, 28, 182, 0, 43, 55, 6, 42, 29, 182, 0, 23, 42, 29, 22, 4, 22, 6]) (by decide +kernel)
theorem dX3_gcd_0 : decode cX3_gcd 0 = .ok (.aload_n 0, 1) := wtX3_gcd_0.1
theorem dX3_gcd_1 : decode cX3_gcd 1 = .ok (.iload_n 1, 1) := wtX3_gcd_0.2.1
theorem dX3_gcd_2 : decode cX3_gcd 2 = .ok (.invokevirtual 43, 3) := wtX3_gcd_0.2.2.1
theorem dX3_gcd_5 : decode cX3_gcd 5 = .ok (.lstore 4, 2) := wtX3_gcd_0.2.2.2.1
theorem dX3_gcd_7 : decode cX3_gcd 7 = .ok (.aload_n 0, 1) := wtX3_gcd_0.2.2.2.2.1
theorem dX3_gcd_8 : decode cX3_gcd 8 = .ok (.iload_n 2, 1) := wtX3_gcd_0.2.2.2.2.2.1
theorem dX3_gcd_9 : decode cX3_gcd 9 = .ok (.invokevirtual 43, 3) := wtX3_gcd_0.2.2.2.2.2.2.1
theorem dX3_gcd_12 : decode cX3_gcd 12 = .ok (.lstore 6, 2) := wtX3_gcd_0.2.2.2.2.2.2.2.1
theorem dX3_gcd_14 : decode cX3_gcd 14 = .ok (.aload_n 0, 1) := wtX3_gcd_0.2.2.2.2.2.2.2.2.1
theorem dX3_gcd_15 : decode cX3_gcd 15 = .ok (.iload_n 3, 1) := wtX3_gcd_0.2.2.2.2.2.2.2.2.2.1
theorem dX3_gcd_16 : decode cX3_gcd 16 = .ok (.invokevirtual 23, 3) := wtX3_gcd_0.2.2.2.2.2.2.2.2.2.2.1
theorem dX3_gcd_19 : decode cX3_gcd 19 = .ok (.aload_n 0, 1) := wtX3_gcd_0.2.2.2.2.2.2.2.2.2.2.2.1
theorem dX3_gcd_20 : decode cX3_gcd 20 = .ok (.iload_n 3, 1) := wtX3_gcd_0.2.2.2.2.2.2.2.2.2.2.2.2.1
theorem dX3_gcd_21 : decode cX3_gcd 21 = .ok (.lload 4, 2) := wtX3_gcd_0.2.2.2.2.2.2.2.2.2.2.2.2.2.1
theorem dX3_gcd_23 : decode cX3_gcd 23 = .ok (.lload 6, 2) := wtX3_gcd_0.2.2.2.2.2.2.2.2.2.2.2.2.2.2.1
theorem wtX3_gcd_25 : dwcj cX3_gcd 25 [(0, .invokestatic 83, 3), (3, .invokevirtual 29, 3), (6, .ireturn, 1)] := dw_all (l := [184, 0, 83, 182, 0, 29, 172]) (by decide +kernel)
theorem dX3_gcd_25 : decode cX3_gcd 25 = .ok (.invokestatic 83, 3) := wtX3_gcd_25.1
theorem dX3_gcd_28 : decode cX3_gcd 28 = .ok (.invokevirtual 29, 3) := wtX3_gcd_25.2.1
theorem dX3_gcd_31 : decode cX3_gcd 31 = .ok (.ireturn, 1) := wtX3_gcd_25.2.2.1
theorem wtX3_lcm_0 : dwcj cX3_lcm 0 [(0, .aload_n 0, 1), (1, .iload_n 1, 1), (2, .invokevirtual 43, 3), (5, .lstore 4, 2), (7, .aload_n 0, 1), (8, .iload_n 2, 1), (9, .invokevirtual 43, 3), (12, .lstore 6, 2), (14, .aload_n 0, 1), (15, .iload_n 3, 1), (16, .invokevirtual 23, 3), (19, .aload_n 0, 1), (20, .iload_n 3, 1), (21, .lload 4, 2), (23, .lload 6, 2)] := dw_all (l := [42, 27, 182, 0, 43, 55, 4, 42, 28, 182, 0, 43, 55, 6, 42, 29, 182, 0, 23, 42, 29, 22, 4, 22, 6]) (by decide +kernel)
theorem dX3_lcm_0 : decode cX3_lcm 0 = .ok (.aload_n 0, 1) := wtX3_lcm_0.1
theorem dX3_lcm_1 : decode cX3_lcm 1 = .ok (.iload_n 1, 1) := wtX3_lcm_0.2.1
theorem dX3_lcm_2 : decode cX3_lcm 2 = .ok (.invokevirtual 43, 3) := wtX3_lcm_0.2.2.1
theorem dX3_lcm_5 : decode cX3_lcm 5 = .ok (.lstore 4, 2) := wtX3_lcm_0.2.2.2.1
theorem dX3_lcm_7 : decode cX3_lcm 7 = .ok (.aload_n 0, 1) := wtX3_lcm_0.2.2.2.2.1
theorem dX3_lcm_8 : decode cX3_lcm 8 = .ok (.iload_n 2, 1) := wtX3_lcm_0.2.2.2.2.2.1
theorem dX3_lcm_9 : decode cX3_lcm 9 = .ok (.invokevirtual 43, 3) := wtX3_lcm_0.2.2.2.2.2.2.1
theorem dX3_lcm_12 : decode cX3_lcm 12 = .ok (.lstore 6, 2) := wtX3_lcm_0.2.2.2.2.2.2.2.1
theorem dX3_lcm_14 : decode cX3_lcm 14 = .ok (.aload_n 0, 1) := wtX3_lcm_0.2.2.2.2.2.2.2.2.1
theorem dX3_lcm_15 : decode cX3_lcm 15 = .ok (.iload_n 3, 1) := wtX3_lcm_0.2.2.2.2.2.2.2.2.2.1
theorem dX3_lcm_16 : decode cX3_lcm 16 = .ok (.invokevirtual 23, 3) := wtX3_lcm_0.2.2.2.2.2.2.2.2.2.2.1
theorem dX3_lcm_19 : decode cX3_lcm 19 = .ok (.aload_n 0, 1) := wtX3_lcm_0.2.2.2.2.2.2.2.2.2.2.2.1
theorem dX3_lcm_20 : decode cX3_lcm 20 = .ok (.iload_n 3, 1) := wtX3_lcm_0.2.2.2.2.2.2.2.2.2.2.2.2.1
theorem dX3_lcm_21 : decode cX3_lcm 21 = .ok (.lload 4, 2) := wtX3_lcm_0.2.2.2.2.2.2.2.2.2.2.2.2.2.1
theorem dX3_lcm_23 : decode cX3_lcm 23 = .ok (.lload 6, 2) := wtX3_lcm_0.2.2.2.2.2.2.2.2.2.2.2.2.2.2.1
theorem wtX3_lcm_25 : dwcj cX3_lcm 25 [(0, .lload 4, 2), (2, .lload 6, 2), (4, .invokestatic 83, 3), (7, .invokestatic 77, 3), (10, .invokevirtual 65, 3), (13, .ireturn, 1)] := dw_all (l := [22, 4, 22, 6, 184, 0, 83, 184, 0, 77, 182, 0, 65, 172]) (by decide +kernel)
theorem dX3_lcm_25 : decode cX3_lcm 25 = .ok (.lload 4, 2) := wtX3_lcm_25.1
theorem dX3_lcm_27 : decode cX3_lcm 27 = .ok (.lload 6, 2) := wtX3_lcm_25.2.1
theorem dX3_lcm_29 : decode cX3_lcm 29 = .ok (.invokestatic 83, 3) := wtX3_lcm_25.2.2.1
theorem dX3_lcm_32 : decode cX3_lcm 32 = .ok (.invokestatic 77, 3) := wtX3_lcm_25.2.2.2.1
theorem dX3_lcm_35 : decode cX3_lcm 35 = .ok (.invokevirtual 65, 3) := wtX3_lcm_25.2.2.2.2.1
theorem dX3_lcm_38 : decode cX3_lcm 38 = .ok (.ireturn, 1) := wtX3_lcm_25.2.2.2.2.2.1
theorem wtX3_bezout_0 : dwcj cX3_bezout 0 [(0, .aload_n 0, 1), (1, .iload_n 1, 1), (2, .invokevirtual 43, 3), (5, .lstore 5, 2), (7, .aload_n 0, 1), (8, .iload_n 2, 1), (9, .invokevirtual 43, 3), (12, .lstore 7, 2), (14, .aload_n 0, 1), (15, .iload 4, 2), (17, .invokevirtual 23, 3), (20, .aload_n 0, 1), (21, .iload 4, 2), (23, .iload_n 3, 1)] := dw_all (l := [42, 27, 182, 0, 43, 55, 5, 42, 28, 182, 0, 43, 55, 7, 42, 21, 4, 182, 0, 23, 42, 21, 4, 29]) (by decide +kernel)
theorem dX3_bezout_0 : decode cX3_bezout 0 = .ok (.aload_n 0, 1) := wtX3_bezout_0.1
theorem dX3_bezout_1 : decode cX3_bezout 1 = .ok (.iload_n 1, 1) := wtX3_bezout_0.2.1
theorem dX3_bezout_2 : decode cX3_bezout 2 = .ok (.invokevirtual 43, 3) := wtX3_bezout_0.2.2.1
theorem dX3_bezout_5 : decode cX3_bezout 5 = .ok (.lstore 5, 2) := wtX3_bezout_0.2.2.2.1
theorem dX3_bezout_7 : decode cX3_bezout 7 = .ok (.aload_n 0, 1) := wtX3_bezout_0.2.2.2.2.1
theorem dX3_bezout_8 : decode cX3_bezout 8 = .ok (.iload_n 2, 1) := wtX3_bezout_0.2.2.2.2.2.1
theorem dX3_bezout_9 : decode cX3_bezout 9 = .ok (.invokevirtual 43, 3) := wtX3_bezout_0.2.2.2.2.2.2.1
theorem dX3_bezout_12 : decode cX3_bezout 12 = .ok (.lstore 7, 2) := wtX3_bezout_0.2.2.2.2.2.2.2.1
theorem dX3_bezout_14 : decode cX3_bezout 14 = .ok (.aload_n 0, 1) := wtX3_bezout_0.2.2.2.2.2.2.2.2.1
theorem dX3_bezout_15 : decode cX3_bezout 15 = .ok (.iload 4, 2) := wtX3_bezout_0.2.2.2.2.2.2.2.2.2.1
theorem dX3_bezout_17 : decode cX3_bezout 17 = .ok (.invokevirtual 23, 3) := wtX3_bezout_0.2.2.2.2.2.2.2.2.2.2.1
theorem dX3_bezout_20 : decode cX3_bezout 20 = .ok (.aload_n 0, 1) := wtX3_bezout_0.2.2.2.2.2.2.2.2.2.2.2.1
theorem dX3_bezout_21 : decode cX3_bezout 21 = .ok (.iload 4, 2) := wtX3_bezout_0.2.2.2.2.2.2.2.2.2.2.2.2.1
theorem dX3_bezout_23 : decode cX3_bezout 23 = .ok (.iload_n 3, 1) := wtX3_bezout_0.2.2.2.2.2.2.2.2.2.2.2.2.2.1
theorem wtX3_bezout_24 : dwcj cX3_bezout 24 [(0, .ifCond .eq 13, 3), (3, .lload 5, 2), (5, .lload 7, 2), (7, .invokestatic 86, 3), (10, .goto 10, 3), (13, .lload 5, 2), (15, .lload 7, 2), (17, .invokestatic 89, 3), (20, .invokevirtual 29, 3), (23, .ireturn, 1)] := dw_all (l := [153, 0, 13, 22, 5, 22, 7, 184, 0, 86, 167, 0, 10, 22, 5, 22, 7, 184, 0, 89, 182, 0, 29, 172]) (by decide +kernel)
theorem dX3_bezout_24 : decode cX3_bezout 24 = .ok (.ifCond .eq 13, 3) := wtX3_bezout_24.1
theorem dX3_bezout_27 : decode cX3_bezout 27 = .ok (.lload 5, 2) := wtX3_bezout_24.2.1
theorem dX3_bezout_29 : decode cX3_bezout 29 = .ok (.lload 7, 2) := wtX3_bezout_24.2.2.1
theorem dX3_bezout_31 : decode cX3_bezout 31 = .ok (.invokestatic 86, 3) := wtX3_bezout_24.2.2.2.1
theorem dX3_bezout_34 : decode cX3_bezout 34 = .ok (.goto 10, 3) := wtX3_bezout_24.2.2.2.2.1
theorem dX3_bezout_37 : decode cX3_bezout 37 = .ok (.lload 5, 2) := wtX3_bezout_24.2.2.2.2.2.1
theorem dX3_bezout_39 : decode cX3_bezout 39 = .ok (.lload 7, 2) := wtX3_bezout_24.2.2.2.2.2.2.1
theorem dX3_bezout_41 : decode cX3_bezout 41 = .ok (.invokestatic 89, 3) := wtX3_bezout_24.2.2.2.2.2.2.2.1
theorem dX3_bezout_44 : decode cX3_bezout 44 = .ok (.invokevirtual 29, 3) := wtX3_bezout_24.2.2.2.2.2.2.2.2.1
theorem dX3_bezout_47 : decode cX3_bezout 47 = .ok (.ireturn, 1) := wtX3_bezout_24.2.2.2.2.2.2.2.2.2.1
theorem wtX3_derive_0 : dwcj cX3_derive 0 [(0, .aload_n 0, 1), (1, .iload_n 1, 1), (2, .invokevirtual 43, 3), (5, .lstore_n 3, 1), (6, .aload_n 0, 1), (7, .iload_n 2, 1), (8, .invokevirtual 23, 3), (11, .aload_n 0, 1), (12, .iload_n 2, 1), (13, .lload_n 3, 1), (14, .invokestatic 92, 3), (17, .invokevirtual 29, 3), (20, .ireturn, 1)] := dw_all (l := [42, 27, 182, 0, 43, 66, 42, 28, 182, 0, 23, 42, 28, 33, 184, 0, 92, 182, 0, 29, 172]) (by decide +kernel)
theorem dX3_derive_0 : decode cX3_derive 0 = .ok (.aload_n 0, 1) := wtX3_derive_0.1
theorem dX3_derive_1 : decode cX3_derive 1 = .ok (.iload_n 1, 1) := wtX3_derive_0.2.1
theorem dX3_derive_2 : decode cX3_derive 2 = .ok (.invokevirtual 43, 3) := wtX3_derive_0.2.2.1
theorem dX3_derive_5 : decode cX3_derive 5 = .ok (.lstore_n 3, 1) := wtX3_derive_0.2.2.2.1
theorem dX3_derive_6 : decode cX3_derive 6 = .ok (.aload_n 0, 1) := wtX3_derive_0.2.2.2.2.1
theorem dX3_derive_7 : decode cX3_derive 7 = .ok (.iload_n 2, 1) := wtX3_derive_0.2.2.2.2.2.1
theorem dX3_derive_8 : decode cX3_derive 8 = .ok (.invokevirtual 23, 3) := wtX3_derive_0.2.2.2.2.2.2.1
theorem dX3_derive_11 : decode cX3_derive 11 = .ok (.aload_n 0, 1) := wtX3_derive_0.2.2.2.2.2.2.2.1
theorem dX3_derive_12 : decode cX3_derive 12 = .ok (.iload_n 2, 1) := wtX3_derive_0.2.2.2.2.2.2.2.2.1
theorem dX3_derive_13 : decode cX3_derive 13 = .ok (.lload_n 3, 1) := wtX3_derive_0.2.2.2.2.2.2.2.2.2.1
theorem dX3_derive_14 : decode cX3_derive 14 = .ok (.invokestatic 92, 3) := wtX3_derive_0.2.2.2.2.2.2.2.2.2.2.1
theorem dX3_derive_17 : decode cX3_derive 17 = .ok (.invokevirtual 29, 3) := wtX3_derive_0.2.2.2.2.2.2.2.2.2.2.2.1
theorem dX3_derive_20 : decode cX3_derive 20 = .ok (.ireturn, 1) := wtX3_derive_0.2.2.2.2.2.2.2.2.2.2.2.2.1
theorem wtX3_root_0 : dwcj cX3_root 0 [(0, .aload_n 0, 1), (1, .iload_n 1, 1), (2, .invokevirtual 43, 3), (5, .lstore_n 3, 1), (6, .aload_n 0, 1), (7, .iload_n 2, 1), (8, .invokevirtual 23, 3), (11, .lload_n 3, 1), (12, .invokestatic 92, 3), (15, .lconst 0, 1), (16, .lcmp, 1), (17, .ifCond .eq 8, 3), (20, .aload_n 0, 1), (21, .invokevirtual 73, 3)] := dw_all (l := [42, 27, 182, 0, 43, 66, 42, 28, 182, 0, 23, 33, 184, 0, 92, 9, 148, 153, 0, 8, 42, 182, 0, 73]) (by decide +kernel)
theorem dX3_root_0 : decode cX3_root 0 = .ok (.aload_n 0, 1) := wtX3_root_0.1
theorem dX3_root_1 : decode cX3_root 1 = .ok (.iload_n 1, 1) := wtX3_root_0.2.1
theorem dX3_root_2 : decode cX3_root 2 = .ok (.invokevirtual 43, 3) := wtX3_root_0.2.2.1
theorem dX3_root_5 : decode cX3_root 5 = .ok (.lstore_n 3, 1) := wtX3_root_0.2.2.2.1
theorem dX3_root_6 : decode cX3_root 6 = .ok (.aload_n 0, 1) := wtX3_root_0.2.2.2.2.1
theorem dX3_root_7 : decode cX3_root 7 = .ok (.iload_n 2, 1) := wtX3_root_0.2.2.2.2.2.1
theorem dX3_root_8 : decode cX3_root 8 = .ok (.invokevirtual 23, 3) := wtX3_root_0.2.2.2.2.2.2.1
theorem dX3_root_11 : decode cX3_root 11 = .ok (.lload_n 3, 1) := wtX3_root_0.2.2.2.2.2.2.2.1
theorem dX3_root_12 : decode cX3_root 12 = .ok (.invokestatic 92, 3) := wtX3_root_0.2.2.2.2.2.2.2.2.1
theorem dX3_root_15 : decode cX3_root 15 = .ok (.lconst 0, 1) := wtX3_root_0.2.2.2.2.2.2.2.2.2.1
theorem dX3_root_16 : decode cX3_root 16 = .ok (.lcmp, 1) := wtX3_root_0.2.2.2.2.2.2.2.2.2.2.1
theorem dX3_root_17 : decode cX3_root 17 = .ok (.ifCond .eq 8, 3) := wtX3_root_0.2.2.2.2.2.2.2.2.2.2.2.1
theorem dX3_root_20 : decode cX3_root 20 = .ok (.aload_n 0, 1) := wtX3_root_0.2.2.2.2.2.2.2.2.2.2.2.2.1
theorem dX3_root_21 : decode cX3_root 21 = .ok (.invokevirtual 73, 3) := wtX3_root_0.2.2.2.2.2.2.2.2.2.2.2.2.2.1
theorem wtX3_root_24 : dwcj cX3_root 24 [(0, .ireturn, 1), (1, .aload_n 0, 1), (2, .iload_n 2, 1), (3, .lload_n 3, 1), (4, .invokestatic 96, 3), (7, .invokevirtual 29, 3), (10, .ireturn, 1)] := dw_all (l := [172, 42, 28, 33, 184, 0, 96, 182, 0, 29, 172]) (by decide +kernel)
theorem dX3_root_24 : decode cX3_root 24 = .ok (.ireturn, 1) := wtX3_root_24.1
theorem dX3_root_25 : decode cX3_root 25 = .ok (.aload_n 0, 1) := wtX3_root_24.2.1
theorem dX3_root_26 : decode cX3_root 26 = .ok (.iload_n 2, 1) := wtX3_root_24.2.2.1
theorem dX3_root_27 : decode cX3_root 27 = .ok (.lload_n 3, 1) := wtX3_root_24.2.2.2.1
theorem dX3_root_28 : decode cX3_root 28 = .ok (.invokestatic 96, 3) := wtX3_root_24.2.2.2.2.1
theorem dX3_root_31 : decode cX3_root 31 = .ok (.invokevirtual 29, 3) := wtX3_root_24.2.2.2.2.2.1
theorem dX3_root_34 : decode cX3_root 34 = .ok (.ireturn, 1) := wtX3_root_24.2.2.2.2.2.2.1
theorem wtX3_turn_0 : dwcj cX3_turn 0 [(0, .aload_n 0, 1), (1, .iload_n 1, 1), (2, .invokevirtual 43, 3), (5, .lstore_n 3, 1), (6, .aload_n 0, 1), (7, .iload_n 2, 1), (8, .invokevirtual 23, 3), (11, .aload_n 0, 1), (12, .iload_n 2, 1), (13, .lload_n 3, 1), (14, .invokestatic 99, 3), (17, .invokevirtual 29, 3), (20, .ireturn, 1)] := dw_all (l := [42, 27, 182, 0, 43, 66, 42, 28, 182, 0, 23, 42, 28, 33, 184, 0, 99, 182, 0, 29, 172]) (by decide +kernel)
theorem dX3_turn_0 : decode cX3_turn 0 = .ok (.aload_n 0, 1) := wtX3_turn_0.1
theorem dX3_turn_1 : decode cX3_turn 1 = .ok (.iload_n 1, 1) := wtX3_turn_0.2.1
theorem dX3_turn_2 : decode cX3_turn 2 = .ok (.invokevirtual 43, 3) := wtX3_turn_0.2.2.1
theorem dX3_turn_5 : decode cX3_turn 5 = .ok (.lstore_n 3, 1) := wtX3_turn_0.2.2.2.1
theorem dX3_turn_6 : decode cX3_turn 6 = .ok (.aload_n 0, 1) := wtX3_turn_0.2.2.2.2.1
theorem dX3_turn_7 : decode cX3_turn 7 = .ok (.iload_n 2, 1) := wtX3_turn_0.2.2.2.2.2.1
theorem dX3_turn_8 : decode cX3_turn 8 = .ok (.invokevirtual 23, 3) := wtX3_turn_0.2.2.2.2.2.2.1
theorem dX3_turn_11 : decode cX3_turn 11 = .ok (.aload_n 0, 1) := wtX3_turn_0.2.2.2.2.2.2.2.1
theorem dX3_turn_12 : decode cX3_turn 12 = .ok (.iload_n 2, 1) := wtX3_turn_0.2.2.2.2.2.2.2.2.1
theorem dX3_turn_13 : decode cX3_turn 13 = .ok (.lload_n 3, 1) := wtX3_turn_0.2.2.2.2.2.2.2.2.2.1
theorem dX3_turn_14 : decode cX3_turn 14 = .ok (.invokestatic 99, 3) := wtX3_turn_0.2.2.2.2.2.2.2.2.2.2.1
theorem dX3_turn_17 : decode cX3_turn 17 = .ok (.invokevirtual 29, 3) := wtX3_turn_0.2.2.2.2.2.2.2.2.2.2.2.1
theorem dX3_turn_20 : decode cX3_turn 20 = .ok (.ireturn, 1) := wtX3_turn_0.2.2.2.2.2.2.2.2.2.2.2.2.1
theorem wtX3_move_0 : dwcj cX3_move 0 [(0, .aload_n 0, 1), (1, .iload_n 1, 1), (2, .invokevirtual 43, 3), (5, .lstore_n 3, 1), (6, .aload_n 0, 1), (7, .iload_n 2, 1), (8, .invokevirtual 23, 3), (11, .aload_n 0, 1), (12, .iload_n 2, 1), (13, .lload_n 3, 1), (14, .invokestatic 102, 3), (17, .invokevirtual 29, 3), (20, .ireturn, 1)] := dw_all (l := [42, 27, 182, 0, 43, 66, 42, 28, 182, 0, 23, 42, 28, 33, 184, 0, 102, 182, 0, 29, 172]) (by decide +kernel)
theorem dX3_move_0 : decode cX3_move 0 = .ok (.aload_n 0, 1) := wtX3_move_0.1
theorem dX3_move_1 : decode cX3_move 1 = .ok (.iload_n 1, 1) := wtX3_move_0.2.1
theorem dX3_move_2 : decode cX3_move 2 = .ok (.invokevirtual 43, 3) := wtX3_move_0.2.2.1
theorem dX3_move_5 : decode cX3_move 5 = .ok (.lstore_n 3, 1) := wtX3_move_0.2.2.2.1
theorem dX3_move_6 : decode cX3_move 6 = .ok (.aload_n 0, 1) := wtX3_move_0.2.2.2.2.1
theorem dX3_move_7 : decode cX3_move 7 = .ok (.iload_n 2, 1) := wtX3_move_0.2.2.2.2.2.1
theorem dX3_move_8 : decode cX3_move 8 = .ok (.invokevirtual 23, 3) := wtX3_move_0.2.2.2.2.2.2.1
theorem dX3_move_11 : decode cX3_move 11 = .ok (.aload_n 0, 1) := wtX3_move_0.2.2.2.2.2.2.2.1
theorem dX3_move_12 : decode cX3_move 12 = .ok (.iload_n 2, 1) := wtX3_move_0.2.2.2.2.2.2.2.2.1
theorem dX3_move_13 : decode cX3_move 13 = .ok (.lload_n 3, 1) := wtX3_move_0.2.2.2.2.2.2.2.2.2.1
theorem dX3_move_14 : decode cX3_move 14 = .ok (.invokestatic 102, 3) := wtX3_move_0.2.2.2.2.2.2.2.2.2.2.1
theorem dX3_move_17 : decode cX3_move 17 = .ok (.invokevirtual 29, 3) := wtX3_move_0.2.2.2.2.2.2.2.2.2.2.2.1
theorem dX3_move_20 : decode cX3_move 20 = .ok (.ireturn, 1) := wtX3_move_0.2.2.2.2.2.2.2.2.2.2.2.2.1
theorem wtX3_power_0 : dwcj cX3_power 0 [(0, .aload_n 0, 1), (1, .iload_n 1, 1), (2, .invokevirtual 43, 3), (5, .lstore 5, 2), (7, .aload_n 0, 1), (8, .iload_n 3, 1), (9, .invokevirtual 43, 3), (12, .lstore 7, 2), (14, .aload_n 0, 1), (15, .iload 4, 2), (17, .invokevirtual 23, 3), (20, .iload_n 2, 1), (21, .iconst 0, 1), (22, .sipush 255, 3)] := dw_all (l := [42, 27, 182, 0, 43, 55, 5, 42, 29, 182, 0, 43, 55, 7, 42, 21, 4, 182, 0, 23, 28, 3, 17, 0, 255]) (by decide +kernel)
theorem dX3_power_0 : decode cX3_power 0 = .ok (.aload_n 0, 1) := wtX3_power_0.1
theorem dX3_power_1 : decode cX3_power 1 = .ok (.iload_n 1, 1) := wtX3_power_0.2.1
theorem dX3_power_2 : decode cX3_power 2 = .ok (.invokevirtual 43, 3) := wtX3_power_0.2.2.1
theorem dX3_power_5 : decode cX3_power 5 = .ok (.lstore 5, 2) := wtX3_power_0.2.2.2.1
theorem dX3_power_7 : decode cX3_power 7 = .ok (.aload_n 0, 1) := wtX3_power_0.2.2.2.2.1
theorem dX3_power_8 : decode cX3_power 8 = .ok (.iload_n 3, 1) := wtX3_power_0.2.2.2.2.2.1
theorem dX3_power_9 : decode cX3_power 9 = .ok (.invokevirtual 43, 3) := wtX3_power_0.2.2.2.2.2.2.1
theorem dX3_power_12 : decode cX3_power 12 = .ok (.lstore 7, 2) := wtX3_power_0.2.2.2.2.2.2.2.1
theorem dX3_power_14 : decode cX3_power 14 = .ok (.aload_n 0, 1) := wtX3_power_0.2.2.2.2.2.2.2.2.1
theorem dX3_power_15 : decode cX3_power 15 = .ok (.iload 4, 2) := wtX3_power_0.2.2.2.2.2.2.2.2.2.1
theorem dX3_power_17 : decode cX3_power 17 = .ok (.invokevirtual 23, 3) := wtX3_power_0.2.2.2.2.2.2.2.2.2.2.1
theorem dX3_power_20 : decode cX3_power 20 = .ok (.iload_n 2, 1) := wtX3_power_0.2.2.2.2.2.2.2.2.2.2.2.1
theorem dX3_power_21 : decode cX3_power 21 = .ok (.iconst 0, 1) := wtX3_power_0.2.2.2.2.2.2.2.2.2.2.2.2.1
theorem dX3_power_22 : decode cX3_power 22 = .ok (.sipush 255, 3) := wtX3_power_0.2.2.2.2.2.2.2.2.2.2.2.2.2.1
theorem wtX3_power_25 : dwcj cX3_power 25 [(0, .invokestatic 33, 3), (3, .lload 7, 2), (5, .iconst 1, 1), (6, .bipush 12, 2), (8, .invokestatic 105, 3), (11, .ifCond .ne 8, 3), (14, .aload_n 0, 1), (15, .invokevirtual 73, 3), (18, .ireturn, 1), (19, .aload_n 0, 1), (20, .iload 4, 2), (22, .lload 5, 2)] := dw_all (l := [184, 0, 33, 22, 7, 4, 16, 12, 184, 0, 105, 154, 0, 8, 42, 182, 0, 73, 172, 42, 21, 4, 22, 5]) (by decide +kernel)
theorem dX3_power_25 : decode cX3_power 25 = .ok (.invokestatic 33, 3) := wtX3_power_25.1
theorem dX3_power_28 : decode cX3_power 28 = .ok (.lload 7, 2) := wtX3_power_25.2.1
theorem dX3_power_30 : decode cX3_power 30 = .ok (.iconst 1, 1) := wtX3_power_25.2.2.1
theorem dX3_power_31 : decode cX3_power 31 = .ok (.bipush 12, 2) := wtX3_power_25.2.2.2.1
theorem dX3_power_33 : decode cX3_power 33 = .ok (.invokestatic 105, 3) := wtX3_power_25.2.2.2.2.1
theorem dX3_power_36 : decode cX3_power 36 = .ok (.ifCond .ne 8, 3) := wtX3_power_25.2.2.2.2.2.1
theorem dX3_power_39 : decode cX3_power 39 = .ok (.aload_n 0, 1) := wtX3_power_25.2.2.2.2.2.2.1
theorem dX3_power_40 : decode cX3_power 40 = .ok (.invokevirtual 73, 3) := wtX3_power_25.2.2.2.2.2.2.2.1
theorem dX3_power_43 : decode cX3_power 43 = .ok (.ireturn, 1) := wtX3_power_25.2.2.2.2.2.2.2.2.1
theorem dX3_power_44 : decode cX3_power 44 = .ok (.aload_n 0, 1) := wtX3_power_25.2.2.2.2.2.2.2.2.2.1
theorem dX3_power_45 : decode cX3_power 45 = .ok (.iload 4, 2) := wtX3_power_25.2.2.2.2.2.2.2.2.2.2.1
theorem dX3_power_47 : decode cX3_power 47 = .ok (.lload 5, 2) := wtX3_power_25.2.2.2.2.2.2.2.2.2.2.2.1
theorem wtX3_power_49 : dwcj cX3_power 49 [(0, .iload_n 2, 1), (1, .lload 7, 2), (3, .invokestatic 109, 3), (6, .invokevirtual 29, 3), (9, .ireturn, 1)] := dw_all (l := [28, 22, 7, 184, 0, 109, 182, 0, 29, 172]) (by decide +kernel)
theorem dX3_power_49 : decode cX3_power 49 = .ok (.iload_n 2, 1) := wtX3_power_49.1
theorem dX3_power_50 : decode cX3_power 50 = .ok (.lload 7, 2) := wtX3_power_49.2.1
theorem dX3_power_52 : decode cX3_power 52 = .ok (.invokestatic 109, 3) := wtX3_power_49.2.2.1
theorem dX3_power_55 : decode cX3_power 55 = .ok (.invokevirtual 29, 3) := wtX3_power_49.2.2.2.1
theorem dX3_power_58 : decode cX3_power 58 = .ok (.ireturn, 1) := wtX3_power_49.2.2.2.2.1
theorem wtX3_nth_0 : dwcj cX3_nth 0 [(0, .aload_n 0, 1), (1, .iload_n 3, 1), (2, .invokevirtual 23, 3), (5, .iload_n 1, 1), (6, .iconst 1, 1), (7, .bipush 8, 2), (9, .invokestatic 33, 3), (12, .iload_n 2, 1), (13, .iconst 0, 1), (14, .bipush 40, 2), (16, .invokestatic 33, 3), (19, .iload_n 1, 1), (20, .iload_n 2, 1), (21, .invokestatic 113, 3)] := dw_all (l := [42, 29, 182, 0, 23, 27, 4, 16, 8, 184, 0, 33, 28, 3, 16, 40, 184, 0, 33, 27, 28, 184, 0, 113]) (by decide +kernel)
theorem dX3_nth_0 : decode cX3_nth 0 = .ok (.aload_n 0, 1) := wtX3_nth_0.1
theorem dX3_nth_1 : decode cX3_nth 1 = .ok (.iload_n 3, 1) := wtX3_nth_0.2.1
theorem dX3_nth_2 : decode cX3_nth 2 = .ok (.invokevirtual 23, 3) := wtX3_nth_0.2.2.1
theorem dX3_nth_5 : decode cX3_nth 5 = .ok (.iload_n 1, 1) := wtX3_nth_0.2.2.2.1
theorem dX3_nth_6 : decode cX3_nth 6 = .ok (.iconst 1, 1) := wtX3_nth_0.2.2.2.2.1
theorem dX3_nth_7 : decode cX3_nth 7 = .ok (.bipush 8, 2) := wtX3_nth_0.2.2.2.2.2.1
theorem dX3_nth_9 : decode cX3_nth 9 = .ok (.invokestatic 33, 3) := wtX3_nth_0.2.2.2.2.2.2.1
theorem dX3_nth_12 : decode cX3_nth 12 = .ok (.iload_n 2, 1) := wtX3_nth_0.2.2.2.2.2.2.2.1
theorem dX3_nth_13 : decode cX3_nth 13 = .ok (.iconst 0, 1) := wtX3_nth_0.2.2.2.2.2.2.2.2.1
theorem dX3_nth_14 : decode cX3_nth 14 = .ok (.bipush 40, 2) := wtX3_nth_0.2.2.2.2.2.2.2.2.2.1
theorem dX3_nth_16 : decode cX3_nth 16 = .ok (.invokestatic 33, 3) := wtX3_nth_0.2.2.2.2.2.2.2.2.2.2.1
theorem dX3_nth_19 : decode cX3_nth 19 = .ok (.iload_n 1, 1) := wtX3_nth_0.2.2.2.2.2.2.2.2.2.2.2.1
theorem dX3_nth_20 : decode cX3_nth 20 = .ok (.iload_n 2, 1) := wtX3_nth_0.2.2.2.2.2.2.2.2.2.2.2.2.1
theorem dX3_nth_21 : decode cX3_nth 21 = .ok (.invokestatic 113, 3) := wtX3_nth_0.2.2.2.2.2.2.2.2.2.2.2.2.2.1
theorem wtX3_nth_24 : dwcj cX3_nth 24 [(0, .lstore 4, 2), (2, .lload 4, 2), (4, .lconst 0, 1), (5, .lcmp, 1), (6, .ifCond .ne 10, 3), (9, .aload_n 0, 1), (10, .invokevirtual 73, 3), (13, .goto 10, 3), (16, .aload_n 0, 1), (17, .iload_n 3, 1), (18, .lload 4, 2), (20, .invokevirtual 29, 3), (23, .ireturn, 1)] := dw_all (l := [55, 4, 22, 4, 9, 148, 154, 0, 10, 42, 182, 0, 73, 167, 0, 10, 42, 29, 22, 4, 182, 0, 29, 172]) (by decide +kernel)
theorem dX3_nth_24 : decode cX3_nth 24 = .ok (.lstore 4, 2) := wtX3_nth_24.1
theorem dX3_nth_26 : decode cX3_nth 26 = .ok (.lload 4, 2) := wtX3_nth_24.2.1
theorem dX3_nth_28 : decode cX3_nth 28 = .ok (.lconst 0, 1) := wtX3_nth_24.2.2.1
theorem dX3_nth_29 : decode cX3_nth 29 = .ok (.lcmp, 1) := wtX3_nth_24.2.2.2.1
theorem dX3_nth_30 : decode cX3_nth 30 = .ok (.ifCond .ne 10, 3) := wtX3_nth_24.2.2.2.2.1
theorem dX3_nth_33 : decode cX3_nth 33 = .ok (.aload_n 0, 1) := wtX3_nth_24.2.2.2.2.2.1
theorem dX3_nth_34 : decode cX3_nth 34 = .ok (.invokevirtual 73, 3) := wtX3_nth_24.2.2.2.2.2.2.1
theorem dX3_nth_37 : decode cX3_nth 37 = .ok (.goto 10, 3) := wtX3_nth_24.2.2.2.2.2.2.2.1
theorem dX3_nth_40 : decode cX3_nth 40 = .ok (.aload_n 0, 1) := wtX3_nth_24.2.2.2.2.2.2.2.2.1
theorem dX3_nth_41 : decode cX3_nth 41 = .ok (.iload_n 3, 1) := wtX3_nth_24.2.2.2.2.2.2.2.2.2.1
theorem dX3_nth_42 : decode cX3_nth 42 = .ok (.lload 4, 2) := wtX3_nth_24.2.2.2.2.2.2.2.2.2.2.1
theorem dX3_nth_44 : decode cX3_nth 44 = .ok (.invokevirtual 29, 3) := wtX3_nth_24.2.2.2.2.2.2.2.2.2.2.2.1
theorem dX3_nth_47 : decode cX3_nth 47 = .ok (.ireturn, 1) := wtX3_nth_24.2.2.2.2.2.2.2.2.2.2.2.2.1
theorem wtX3_field_0 : dwcj cX3_field 0 [(0, .aload_n 0, 1), (1, .iload_n 2, 1), (2, .invokevirtual 23, 3), (5, .iload_n 1, 1), (6, .iconst 1, 1), (7, .iconst 5, 1), (8, .invokestatic 33, 3), (11, .aload_n 0, 1), (12, .iload_n 2, 1), (13, .iload_n 1, 1), (14, .invokestatic 119, 3), (17, .invokevirtual 29, 3), (20, .ireturn, 1)] := dw_all (l := [42, 28, 182, 0, 23, 27, 4, 8, 184, 0, 33, 42, 28, 27, 184, 0, 119, 182, 0, 29, 172]) (by decide +kernel)
theorem dX3_field_0 : decode cX3_field 0 = .ok (.aload_n 0, 1) := wtX3_field_0.1
theorem dX3_field_1 : decode cX3_field 1 = .ok (.iload_n 2, 1) := wtX3_field_0.2.1
theorem dX3_field_2 : decode cX3_field 2 = .ok (.invokevirtual 23, 3) := wtX3_field_0.2.2.1
theorem dX3_field_5 : decode cX3_field 5 = .ok (.iload_n 1, 1) := wtX3_field_0.2.2.2.1
theorem dX3_field_6 : decode cX3_field 6 = .ok (.iconst 1, 1) := wtX3_field_0.2.2.2.2.1
theorem dX3_field_7 : decode cX3_field 7 = .ok (.iconst 5, 1) := wtX3_field_0.2.2.2.2.2.1
theorem dX3_field_8 : decode cX3_field 8 = .ok (.invokestatic 33, 3) := wtX3_field_0.2.2.2.2.2.2.1
theorem dX3_field_11 : decode cX3_field 11 = .ok (.aload_n 0, 1) := wtX3_field_0.2.2.2.2.2.2.2.1
theorem dX3_field_12 : decode cX3_field 12 = .ok (.iload_n 2, 1) := wtX3_field_0.2.2.2.2.2.2.2.2.1
theorem dX3_field_13 : decode cX3_field 13 = .ok (.iload_n 1, 1) := wtX3_field_0.2.2.2.2.2.2.2.2.2.1
theorem dX3_field_14 : decode cX3_field 14 = .ok (.invokestatic 119, 3) := wtX3_field_0.2.2.2.2.2.2.2.2.2.2.1
theorem dX3_field_17 : decode cX3_field 17 = .ok (.invokevirtual 29, 3) := wtX3_field_0.2.2.2.2.2.2.2.2.2.2.2.1
theorem dX3_field_20 : decode cX3_field 20 = .ok (.ireturn, 1) := wtX3_field_0.2.2.2.2.2.2.2.2.2.2.2.2.1
theorem wtX3_again_0 : dwcj cX3_again 0 [(0, .aload_n 0, 1), (1, .iload_n 1, 1), (2, .invokevirtual 43, 3), (5, .lstore 4, 2), (7, .aload_n 0, 1), (8, .iload_n 3, 1), (9, .invokevirtual 23, 3), (12, .iload_n 2, 1), (13, .iconst 2, 1), (14, .bipush 36, 2), (16, .invokestatic 33, 3), (19, .aload_n 0, 1), (20, .iload_n 3, 1), (21, .lload 4, 2), (23, .invokevirtual 29, 3)] := dw_all (l := [42, 27, 182, 0, 43, 55, 4, 42, 29, 182, 0, 23, 28, 5, 16, 36, 184, 0, 33, 42, 29, 22, 4, 182, 0, 29]) (by decide +kernel)
theorem dX3_again_0 : decode cX3_again 0 = .ok (.aload_n 0, 1) := wtX3_again_0.1
theorem dX3_again_1 : decode cX3_again 1 = .ok (.iload_n 1, 1) := wtX3_again_0.2.1
theorem dX3_again_2 : decode cX3_again 2 = .ok (.invokevirtual 43, 3) := wtX3_again_0.2.2.1
theorem dX3_again_5 : decode cX3_again 5 = .ok (.lstore 4, 2) := wtX3_again_0.2.2.2.1
theorem dX3_again_7 : decode cX3_again 7 = .ok (.aload_n 0, 1) := wtX3_again_0.2.2.2.2.1
theorem dX3_again_8 : decode cX3_again 8 = .ok (.iload_n 3, 1) := wtX3_again_0.2.2.2.2.2.1
theorem dX3_again_9 : decode cX3_again 9 = .ok (.invokevirtual 23, 3) := wtX3_again_0.2.2.2.2.2.2.1
theorem dX3_again_12 : decode cX3_again 12 = .ok (.iload_n 2, 1) := wtX3_again_0.2.2.2.2.2.2.2.1
theorem dX3_again_13 : decode cX3_again 13 = .ok (.iconst 2, 1) := wtX3_again_0.2.2.2.2.2.2.2.2.1
theorem dX3_again_14 : decode cX3_again 14 = .ok (.bipush 36, 2) := wtX3_again_0.2.2.2.2.2.2.2.2.2.1
theorem dX3_again_16 : decode cX3_again 16 = .ok (.invokestatic 33, 3) := wtX3_again_0.2.2.2.2.2.2.2.2.2.2.1
theorem dX3_again_19 : decode cX3_again 19 = .ok (.aload_n 0, 1) := wtX3_again_0.2.2.2.2.2.2.2.2.2.2.2.1
theorem dX3_again_20 : decode cX3_again 20 = .ok (.iload_n 3, 1) := wtX3_again_0.2.2.2.2.2.2.2.2.2.2.2.2.1
theorem dX3_again_21 : decode cX3_again 21 = .ok (.lload 4, 2) := wtX3_again_0.2.2.2.2.2.2.2.2.2.2.2.2.2.1
theorem dX3_again_23 : decode cX3_again 23 = .ok (.invokevirtual 29, 3) := wtX3_again_0.2.2.2.2.2.2.2.2.2.2.2.2.2.2.1
theorem wtX3_again_26 : dwcj cX3_again 26 [(0, .ireturn, 1)] := dw_all (l := [172]) (by decide +kernel)
theorem dX3_again_26 : decode cX3_again 26 = .ok (.ireturn, 1) := wtX3_again_26.1
theorem wtX3_degree_0 : dwcj cX3_degree 0 [(0, .aload_n 0, 1), (1, .iload_n 1, 1), (2, .invokevirtual 43, 3), (5, .invokestatic 69, 3), (8, .ireturn, 1)] := dw_all (l := [42, 27, 182, 0, 43, 184, 0, 69, 172]) (by decide +kernel)
theorem dX3_degree_0 : decode cX3_degree 0 = .ok (.aload_n 0, 1) := wtX3_degree_0.1
theorem dX3_degree_1 : decode cX3_degree 1 = .ok (.iload_n 1, 1) := wtX3_degree_0.2.1
theorem dX3_degree_2 : decode cX3_degree 2 = .ok (.invokevirtual 43, 3) := wtX3_degree_0.2.2.1
theorem dX3_degree_5 : decode cX3_degree 5 = .ok (.invokestatic 69, 3) := wtX3_degree_0.2.2.2.1
theorem dX3_degree_8 : decode cX3_degree 8 = .ok (.ireturn, 1) := wtX3_degree_0.2.2.2.2.1
theorem wtX3_low_0 : dwcj cX3_low 0 [(0, .aload_n 0, 1), (1, .iload_n 1, 1), (2, .invokevirtual 43, 3), (5, .invokestatic 122, 3), (8, .ireturn, 1)] := dw_all (l := [42, 27, 182, 0, 43, 184, 0, 122, 172]) (by decide +kernel)
theorem dX3_low_0 : decode cX3_low 0 = .ok (.aload_n 0, 1) := wtX3_low_0.1
theorem dX3_low_1 : decode cX3_low 1 = .ok (.iload_n 1, 1) := wtX3_low_0.2.1
theorem dX3_low_2 : decode cX3_low 2 = .ok (.invokevirtual 43, 3) := wtX3_low_0.2.2.1
theorem dX3_low_5 : decode cX3_low 5 = .ok (.invokestatic 122, 3) := wtX3_low_0.2.2.2.1
theorem dX3_low_8 : decode cX3_low 8 = .ok (.ireturn, 1) := wtX3_low_0.2.2.2.2.1
theorem wtX3_weight_0 : dwcj cX3_weight 0 [(0, .aload_n 0, 1), (1, .iload_n 1, 1), (2, .invokevirtual 43, 3), (5, .invokestatic 125, 3), (8, .ireturn, 1)] := dw_all (l := [42, 27, 182, 0, 43, 184, 0, 125, 172]) (by decide +kernel)
theorem dX3_weight_0 : decode cX3_weight 0 = .ok (.aload_n 0, 1) := wtX3_weight_0.1
theorem dX3_weight_1 : decode cX3_weight 1 = .ok (.iload_n 1, 1) := wtX3_weight_0.2.1
theorem dX3_weight_2 : decode cX3_weight 2 = .ok (.invokevirtual 43, 3) := wtX3_weight_0.2.2.1
theorem dX3_weight_5 : decode cX3_weight 5 = .ok (.invokestatic 125, 3) := wtX3_weight_0.2.2.2.1
theorem dX3_weight_8 : decode cX3_weight 8 = .ok (.ireturn, 1) := wtX3_weight_0.2.2.2.2.1
theorem wtX3_at_0 : dwcj cX3_at 0 [(0, .aload_n 0, 1), (1, .iload_n 1, 1), (2, .invokevirtual 43, 3), (5, .lstore_n 3, 1), (6, .iload_n 2, 1), (7, .iconst 0, 1), (8, .bipush 99, 2), (10, .invokestatic 33, 3), (13, .lload_n 3, 1), (14, .iload_n 2, 1), (15, .invokestatic 48, 3), (18, .ireturn, 1)] := dw_all (l := [42, 27, 182, 0, 43, 66, 28, 3, 16, 99, 184, 0, 33, 33, 28, 184, 0, 48, 172]) (by decide +kernel)
theorem dX3_at_0 : decode cX3_at 0 = .ok (.aload_n 0, 1) := wtX3_at_0.1
theorem dX3_at_1 : decode cX3_at 1 = .ok (.iload_n 1, 1) := wtX3_at_0.2.1
theorem dX3_at_2 : decode cX3_at 2 = .ok (.invokevirtual 43, 3) := wtX3_at_0.2.2.1
theorem dX3_at_5 : decode cX3_at 5 = .ok (.lstore_n 3, 1) := wtX3_at_0.2.2.2.1
theorem dX3_at_6 : decode cX3_at 6 = .ok (.iload_n 2, 1) := wtX3_at_0.2.2.2.2.1
theorem dX3_at_7 : decode cX3_at 7 = .ok (.iconst 0, 1) := wtX3_at_0.2.2.2.2.2.1
theorem dX3_at_8 : decode cX3_at 8 = .ok (.bipush 99, 2) := wtX3_at_0.2.2.2.2.2.2.1
theorem dX3_at_10 : decode cX3_at 10 = .ok (.invokestatic 33, 3) := wtX3_at_0.2.2.2.2.2.2.2.1
theorem dX3_at_13 : decode cX3_at 13 = .ok (.lload_n 3, 1) := wtX3_at_0.2.2.2.2.2.2.2.2.1
theorem dX3_at_14 : decode cX3_at 14 = .ok (.iload_n 2, 1) := wtX3_at_0.2.2.2.2.2.2.2.2.2.1
theorem dX3_at_15 : decode cX3_at 15 = .ok (.invokestatic 48, 3) := wtX3_at_0.2.2.2.2.2.2.2.2.2.2.1
theorem dX3_at_18 : decode cX3_at 18 = .ok (.ireturn, 1) := wtX3_at_0.2.2.2.2.2.2.2.2.2.2.2.1
theorem wtX3_digits_0 : dwcj cX3_digits 0 [(0, .aload_n 0, 1), (1, .iload_n 1, 1), (2, .invokevirtual 43, 3), (5, .l2i, 1), (6, .ireturn, 1)] := dw_all (l := [42, 27, 182, 0, 43, 136, 172]) (by decide +kernel)
theorem dX3_digits_0 : decode cX3_digits 0 = .ok (.aload_n 0, 1) := wtX3_digits_0.1
theorem dX3_digits_1 : decode cX3_digits 1 = .ok (.iload_n 1, 1) := wtX3_digits_0.2.1
theorem dX3_digits_2 : decode cX3_digits 2 = .ok (.invokevirtual 43, 3) := wtX3_digits_0.2.2.1
theorem dX3_digits_5 : decode cX3_digits 5 = .ok (.l2i, 1) := wtX3_digits_0.2.2.2.1
theorem dX3_digits_6 : decode cX3_digits 6 = .ok (.ireturn, 1) := wtX3_digits_0.2.2.2.2.1
theorem wtX3_text_0 : dwcj cX3_text 0 [(0, .aload_n 0, 1), (1, .iload_n 1, 1), (2, .invokevirtual 43, 3), (5, .invokestatic 130, 3), (8, .areturn, 1)] := dw_all (l := [42, 27, 182, 0, 43, 184, 0, 130, 176]) (by decide +kernel)
theorem dX3_text_0 : decode cX3_text 0 = .ok (.aload_n 0, 1) := wtX3_text_0.1
theorem dX3_text_1 : decode cX3_text 1 = .ok (.iload_n 1, 1) := wtX3_text_0.2.1
theorem dX3_text_2 : decode cX3_text 2 = .ok (.invokevirtual 43, 3) := wtX3_text_0.2.2.1
theorem dX3_text_5 : decode cX3_text 5 = .ok (.invokestatic 130, 3) := wtX3_text_0.2.2.2.1
theorem dX3_text_8 : decode cX3_text 8 = .ok (.areturn, 1) := wtX3_text_0.2.2.2.2.1
theorem wtX3_code_0 : dwcj cX3_code 0 [(0, .aload_n 0, 1), (1, .iload_n 1, 1), (2, .invokevirtual 43, 3), (5, .lstore_n 3, 1), (6, .iload_n 2, 1), (7, .iconst 2, 1), (8, .bipush 36, 2), (10, .invokestatic 33, 3), (13, .lload_n 3, 1), (14, .iload_n 2, 1), (15, .invokestatic 136, 3), (18, .areturn, 1)] := dw_all (l := [42, 27, 182, 0, 43, 66, 28, 5, 16, 36, 184, 0, 33, 33, 28, 184, 0, 136, 176]) (by decide +kernel)
theorem dX3_code_0 : decode cX3_code 0 = .ok (.aload_n 0, 1) := wtX3_code_0.1
theorem dX3_code_1 : decode cX3_code 1 = .ok (.iload_n 1, 1) := wtX3_code_0.2.1
theorem dX3_code_2 : decode cX3_code 2 = .ok (.invokevirtual 43, 3) := wtX3_code_0.2.2.1
theorem dX3_code_5 : decode cX3_code 5 = .ok (.lstore_n 3, 1) := wtX3_code_0.2.2.2.1
theorem dX3_code_6 : decode cX3_code 6 = .ok (.iload_n 2, 1) := wtX3_code_0.2.2.2.2.1
theorem dX3_code_7 : decode cX3_code 7 = .ok (.iconst 2, 1) := wtX3_code_0.2.2.2.2.2.1
theorem dX3_code_8 : decode cX3_code 8 = .ok (.bipush 36, 2) := wtX3_code_0.2.2.2.2.2.2.1
theorem dX3_code_10 : decode cX3_code 10 = .ok (.invokestatic 33, 3) := wtX3_code_0.2.2.2.2.2.2.2.1
theorem dX3_code_13 : decode cX3_code 13 = .ok (.lload_n 3, 1) := wtX3_code_0.2.2.2.2.2.2.2.2.1
theorem dX3_code_14 : decode cX3_code 14 = .ok (.iload_n 2, 1) := wtX3_code_0.2.2.2.2.2.2.2.2.2.1
theorem dX3_code_15 : decode cX3_code 15 = .ok (.invokestatic 136, 3) := wtX3_code_0.2.2.2.2.2.2.2.2.2.2.1
theorem dX3_code_18 : decode cX3_code 18 = .ok (.areturn, 1) := wtX3_code_0.2.2.2.2.2.2.2.2.2.2.2.1
theorem wtX3_order_0 : dwcj cX3_order 0 [(0, .aload_n 0, 1), (1, .iload_n 1, 1), (2, .invokevirtual 43, 3), (5, .lstore_n 3, 1), (6, .aload_n 0, 1), (7, .iload_n 2, 1), (8, .invokevirtual 43, 3), (11, .lstore 5, 2), (13, .lload_n 3, 1), (14, .lload 5, 2), (16, .lcmp, 1), (17, .ifCond .ge 7, 3), (20, .iconst (-1), 1), (21, .goto 15, 3)] := dw_all (l := [42, 27, 182, 0, 43, 66, 42, 28, 182, 0, 43, 55, 5, 33, 22, 5, 148, 156, 0, 7, 2, 167, 0, 15]) (by decide +kernel)
theorem dX3_order_0 : decode cX3_order 0 = .ok (.aload_n 0, 1) := wtX3_order_0.1
theorem dX3_order_1 : decode cX3_order 1 = .ok (.iload_n 1, 1) := wtX3_order_0.2.1
theorem dX3_order_2 : decode cX3_order 2 = .ok (.invokevirtual 43, 3) := wtX3_order_0.2.2.1
theorem dX3_order_5 : decode cX3_order 5 = .ok (.lstore_n 3, 1) := wtX3_order_0.2.2.2.1
theorem dX3_order_6 : decode cX3_order 6 = .ok (.aload_n 0, 1) := wtX3_order_0.2.2.2.2.1
theorem dX3_order_7 : decode cX3_order 7 = .ok (.iload_n 2, 1) := wtX3_order_0.2.2.2.2.2.1
theorem dX3_order_8 : decode cX3_order 8 = .ok (.invokevirtual 43, 3) := wtX3_order_0.2.2.2.2.2.2.1
theorem dX3_order_11 : decode cX3_order 11 = .ok (.lstore 5, 2) := wtX3_order_0.2.2.2.2.2.2.2.1
theorem dX3_order_13 : decode cX3_order 13 = .ok (.lload_n 3, 1) := wtX3_order_0.2.2.2.2.2.2.2.2.1
theorem dX3_order_14 : decode cX3_order 14 = .ok (.lload 5, 2) := wtX3_order_0.2.2.2.2.2.2.2.2.2.1
theorem dX3_order_16 : decode cX3_order 16 = .ok (.lcmp, 1) := wtX3_order_0.2.2.2.2.2.2.2.2.2.2.1
theorem dX3_order_17 : decode cX3_order 17 = .ok (.ifCond .ge 7, 3) := wtX3_order_0.2.2.2.2.2.2.2.2.2.2.2.1
theorem dX3_order_20 : decode cX3_order 20 = .ok (.iconst (-1), 1) := wtX3_order_0.2.2.2.2.2.2.2.2.2.2.2.2.1
theorem dX3_order_21 : decode cX3_order 21 = .ok (.goto 15, 3) := wtX3_order_0.2.2.2.2.2.2.2.2.2.2.2.2.2.1
theorem wtX3_order_24 : dwcj cX3_order 24 [(0, .lload_n 3, 1), (1, .lload 5, 2), (3, .lcmp, 1), (4, .ifCond .le 7, 3), (7, .iconst 1, 1), (8, .goto 4, 3), (11, .iconst 0, 1), (12, .ireturn, 1)] := dw_all (l := [33, 22, 5, 148, 158, 0, 7, 4, 167, 0, 4, 3, 172]) (by decide +kernel)
theorem dX3_order_24 : decode cX3_order 24 = .ok (.lload_n 3, 1) := wtX3_order_24.1
theorem dX3_order_25 : decode cX3_order 25 = .ok (.lload 5, 2) := wtX3_order_24.2.1
theorem dX3_order_27 : decode cX3_order 27 = .ok (.lcmp, 1) := wtX3_order_24.2.2.1
theorem dX3_order_28 : decode cX3_order 28 = .ok (.ifCond .le 7, 3) := wtX3_order_24.2.2.2.1
theorem dX3_order_31 : decode cX3_order 31 = .ok (.iconst 1, 1) := wtX3_order_24.2.2.2.2.1
theorem dX3_order_32 : decode cX3_order 32 = .ok (.goto 4, 3) := wtX3_order_24.2.2.2.2.2.1
theorem dX3_order_35 : decode cX3_order 35 = .ok (.iconst 0, 1) := wtX3_order_24.2.2.2.2.2.2.1
theorem dX3_order_36 : decode cX3_order 36 = .ok (.ireturn, 1) := wtX3_order_24.2.2.2.2.2.2.2.1
theorem wtX3_isSame_0 : dwcj cX3_isSame 0 [(0, .aload_n 0, 1), (1, .iload_n 1, 1), (2, .invokevirtual 43, 3), (5, .aload_n 0, 1), (6, .iload_n 2, 1), (7, .invokevirtual 43, 3), (10, .lcmp, 1), (11, .ifCond .ne 7, 3), (14, .iconst 1, 1), (15, .goto 4, 3), (18, .iconst 0, 1), (19, .ireturn, 1)] := dw_all (l := [42, 27, 182, 0, 43, 42, 28, 182, 0, 43, 148, 154, 0, 7, 4, 167, 0, 4, 3, 172]) (by decide +kernel)
theorem dX3_isSame_0 : decode cX3_isSame 0 = .ok (.aload_n 0, 1) := wtX3_isSame_0.1
theorem dX3_isSame_1 : decode cX3_isSame 1 = .ok (.iload_n 1, 1) := wtX3_isSame_0.2.1
theorem dX3_isSame_2 : decode cX3_isSame 2 = .ok (.invokevirtual 43, 3) := wtX3_isSame_0.2.2.1
theorem dX3_isSame_5 : decode cX3_isSame 5 = .ok (.aload_n 0, 1) := wtX3_isSame_0.2.2.2.1
theorem dX3_isSame_6 : decode cX3_isSame 6 = .ok (.iload_n 2, 1) := wtX3_isSame_0.2.2.2.2.1
theorem dX3_isSame_7 : decode cX3_isSame 7 = .ok (.invokevirtual 43, 3) := wtX3_isSame_0.2.2.2.2.2.1
theorem dX3_isSame_10 : decode cX3_isSame 10 = .ok (.lcmp, 1) := wtX3_isSame_0.2.2.2.2.2.2.1
theorem dX3_isSame_11 : decode cX3_isSame 11 = .ok (.ifCond .ne 7, 3) := wtX3_isSame_0.2.2.2.2.2.2.2.1
theorem dX3_isSame_14 : decode cX3_isSame 14 = .ok (.iconst 1, 1) := wtX3_isSame_0.2.2.2.2.2.2.2.2.1
theorem dX3_isSame_15 : decode cX3_isSame 15 = .ok (.goto 4, 3) := wtX3_isSame_0.2.2.2.2.2.2.2.2.2.1
theorem dX3_isSame_18 : decode cX3_isSame 18 = .ok (.iconst 0, 1) := wtX3_isSame_0.2.2.2.2.2.2.2.2.2.2.1
theorem dX3_isSame_19 : decode cX3_isSame 19 = .ok (.ireturn, 1) := wtX3_isSame_0.2.2.2.2.2.2.2.2.2.2.2.1
theorem wtX3_value_0 : dwcj cX3_value 0 [(0, .aload_n 0, 1), (1, .iload_n 1, 1), (2, .invokevirtual 43, 3), (5, .lstore_n 3, 1), (6, .iload_n 2, 1), (7, .ifCond .eq 12, 3), (10, .lload_n 3, 1), (11, .invokestatic 125, 3), (14, .iconst 1, 1), (15, .iand, 1), (16, .goto 7, 3), (19, .lload_n 3, 1), (20, .lconst 1, 1), (21, .land, 1), (22, .l2i, 1), (23, .ireturn, 1)] := dw_all (l := [42, 27, 182, 0, 43, 66, 28, 153, 0, 12, 33, 184, 0, 125, 4, 126, 167, 0, 7, 33, 10, 127, 136, 172]) (by decide +kernel)
theorem dX3_value_0 : decode cX3_value 0 = .ok (.aload_n 0, 1) := wtX3_value_0.1
theorem dX3_value_1 : decode cX3_value 1 = .ok (.iload_n 1, 1) := wtX3_value_0.2.1
theorem dX3_value_2 : decode cX3_value 2 = .ok (.invokevirtual 43, 3) := wtX3_value_0.2.2.1
theorem dX3_value_5 : decode cX3_value 5 = .ok (.lstore_n 3, 1) := wtX3_value_0.2.2.2.1
theorem dX3_value_6 : decode cX3_value 6 = .ok (.iload_n 2, 1) := wtX3_value_0.2.2.2.2.1
theorem dX3_value_7 : decode cX3_value 7 = .ok (.ifCond .eq 12, 3) := wtX3_value_0.2.2.2.2.2.1
theorem dX3_value_10 : decode cX3_value 10 = .ok (.lload_n 3, 1) := wtX3_value_0.2.2.2.2.2.2.1
theorem dX3_value_11 : decode cX3_value 11 = .ok (.invokestatic 125, 3) := wtX3_value_0.2.2.2.2.2.2.2.1
theorem dX3_value_14 : decode cX3_value 14 = .ok (.iconst 1, 1) := wtX3_value_0.2.2.2.2.2.2.2.2.1
theorem dX3_value_15 : decode cX3_value 15 = .ok (.iand, 1) := wtX3_value_0.2.2.2.2.2.2.2.2.2.1
theorem dX3_value_16 : decode cX3_value 16 = .ok (.goto 7, 3) := wtX3_value_0.2.2.2.2.2.2.2.2.2.2.1
theorem dX3_value_19 : decode cX3_value 19 = .ok (.lload_n 3, 1) := wtX3_value_0.2.2.2.2.2.2.2.2.2.2.2.1
theorem dX3_value_20 : decode cX3_value 20 = .ok (.lconst 1, 1) := wtX3_value_0.2.2.2.2.2.2.2.2.2.2.2.2.1
theorem dX3_value_21 : decode cX3_value 21 = .ok (.land, 1) := wtX3_value_0.2.2.2.2.2.2.2.2.2.2.2.2.2.1
theorem dX3_value_22 : decode cX3_value 22 = .ok (.l2i, 1) := wtX3_value_0.2.2.2.2.2.2.2.2.2.2.2.2.2.2.1
theorem dX3_value_23 : decode cX3_value 23 = .ok (.ireturn, 1) := wtX3_value_0.2.2.2.2.2.2.2.2.2.2.2.2.2.2.2.1
theorem wtX3_divides_0 : dwcj cX3_divides 0 [(0, .aload_n 0, 1), (1, .iload_n 1, 1), (2, .invokevirtual 43, 3), (5, .aload_n 0, 1), (6, .iload_n 2, 1), (7, .invokevirtual 43, 3), (10, .invokestatic 140, 3), (13, .ireturn, 1)] := dw_all (l := [42, 27, 182, 0, 43, 42, 28, 182, 0, 43, 184, 0, 140, 172]) (by decide +kernel)
theorem dX3_divides_0 : decode cX3_divides 0 = .ok (.aload_n 0, 1) := wtX3_divides_0.1
theorem dX3_divides_1 : decode cX3_divides 1 = .ok (.iload_n 1, 1) := wtX3_divides_0.2.1
theorem dX3_divides_2 : decode cX3_divides 2 = .ok (.invokevirtual 43, 3) := wtX3_divides_0.2.2.1
theorem dX3_divides_5 : decode cX3_divides 5 = .ok (.aload_n 0, 1) := wtX3_divides_0.2.2.2.1
theorem dX3_divides_6 : decode cX3_divides 6 = .ok (.iload_n 2, 1) := wtX3_divides_0.2.2.2.2.1
theorem dX3_divides_7 : decode cX3_divides 7 = .ok (.invokevirtual 43, 3) := wtX3_divides_0.2.2.2.2.2.1
theorem dX3_divides_10 : decode cX3_divides 10 = .ok (.invokestatic 140, 3) := wtX3_divides_0.2.2.2.2.2.2.1
theorem dX3_divides_13 : decode cX3_divides 13 = .ok (.ireturn, 1) := wtX3_divides_0.2.2.2.2.2.2.2.1
theorem wtX3_isFree_0 : dwcj cX3_isFree 0 [(0, .aload_n 0, 1), (1, .iload_n 1, 1), (2, .invokevirtual 43, 3), (5, .lstore_n 2, 1), (6, .lload_n 2, 1), (7, .lload_n 2, 1), (8, .invokestatic 92, 3), (11, .invokestatic 83, 3), (14, .lconst 1, 1), (15, .lcmp, 1), (16, .ifCond .ne 7, 3), (19, .iconst 1, 1), (20, .goto 4, 3), (23, .iconst 0, 1)] := dw_all (l := [42, 27, 182, 0, 43, 65, 32, 32, 184, 0, 92, 184, 0, 83, 10, 148, 154, 0, 7, 4, 167, 0, 4, 3]) (by decide +kernel)
theorem dX3_isFree_0 : decode cX3_isFree 0 = .ok (.aload_n 0, 1) := wtX3_isFree_0.1
theorem dX3_isFree_1 : decode cX3_isFree 1 = .ok (.iload_n 1, 1) := wtX3_isFree_0.2.1
theorem dX3_isFree_2 : decode cX3_isFree 2 = .ok (.invokevirtual 43, 3) := wtX3_isFree_0.2.2.1
theorem dX3_isFree_5 : decode cX3_isFree 5 = .ok (.lstore_n 2, 1) := wtX3_isFree_0.2.2.2.1
theorem dX3_isFree_6 : decode cX3_isFree 6 = .ok (.lload_n 2, 1) := wtX3_isFree_0.2.2.2.2.1
theorem dX3_isFree_7 : decode cX3_isFree 7 = .ok (.lload_n 2, 1) := wtX3_isFree_0.2.2.2.2.2.1
theorem dX3_isFree_8 : decode cX3_isFree 8 = .ok (.invokestatic 92, 3) := wtX3_isFree_0.2.2.2.2.2.2.1
theorem dX3_isFree_11 : decode cX3_isFree 11 = .ok (.invokestatic 83, 3) := wtX3_isFree_0.2.2.2.2.2.2.2.1
theorem dX3_isFree_14 : decode cX3_isFree 14 = .ok (.lconst 1, 1) := wtX3_isFree_0.2.2.2.2.2.2.2.2.1
theorem dX3_isFree_15 : decode cX3_isFree 15 = .ok (.lcmp, 1) := wtX3_isFree_0.2.2.2.2.2.2.2.2.2.1
theorem dX3_isFree_16 : decode cX3_isFree 16 = .ok (.ifCond .ne 7, 3) := wtX3_isFree_0.2.2.2.2.2.2.2.2.2.2.1
theorem dX3_isFree_19 : decode cX3_isFree 19 = .ok (.iconst 1, 1) := wtX3_isFree_0.2.2.2.2.2.2.2.2.2.2.2.1
theorem dX3_isFree_20 : decode cX3_isFree 20 = .ok (.goto 4, 3) := wtX3_isFree_0.2.2.2.2.2.2.2.2.2.2.2.2.1
theorem dX3_isFree_23 : decode cX3_isFree 23 = .ok (.iconst 0, 1) := wtX3_isFree_0.2.2.2.2.2.2.2.2.2.2.2.2.2.1
theorem wtX3_isFree_24 : dwcj cX3_isFree 24 [(0, .ireturn, 1)] := dw_all (l := [172]) (by decide +kernel)
theorem dX3_isFree_24 : decode cX3_isFree 24 = .ok (.ireturn, 1) := wtX3_isFree_24.1
theorem wtX3_irreducible_0 : dwcj cX3_irreducible 0 [(0, .aload_n 0, 1), (1, .iload_n 1, 1), (2, .invokevirtual 43, 3), (5, .lstore_n 2, 1), (6, .lload_n 2, 1), (7, .invokestatic 69, 3), (10, .bipush 12, 2), (12, .if_icmp .le 8, 3), (15, .aload_n 0, 1), (16, .invokevirtual 73, 3), (19, .ireturn, 1), (20, .lload_n 2, 1), (21, .invokestatic 144, 3)] := dw_all (l := [42, 27, 182, 0, 43, 65, 32, 184, 0, 69, 16, 12, 164, 0, 8, 42, 182, 0, 73, 172, 32, 184, 0, 144]) (by decide +kernel)
theorem dX3_irreducible_0 : decode cX3_irreducible 0 = .ok (.aload_n 0, 1) := wtX3_irreducible_0.1
theorem dX3_irreducible_1 : decode cX3_irreducible 1 = .ok (.iload_n 1, 1) := wtX3_irreducible_0.2.1
theorem dX3_irreducible_2 : decode cX3_irreducible 2 = .ok (.invokevirtual 43, 3) := wtX3_irreducible_0.2.2.1
theorem dX3_irreducible_5 : decode cX3_irreducible 5 = .ok (.lstore_n 2, 1) := wtX3_irreducible_0.2.2.2.1
theorem dX3_irreducible_6 : decode cX3_irreducible 6 = .ok (.lload_n 2, 1) := wtX3_irreducible_0.2.2.2.2.1
theorem dX3_irreducible_7 : decode cX3_irreducible 7 = .ok (.invokestatic 69, 3) := wtX3_irreducible_0.2.2.2.2.2.1
theorem dX3_irreducible_10 : decode cX3_irreducible 10 = .ok (.bipush 12, 2) := wtX3_irreducible_0.2.2.2.2.2.2.1
theorem dX3_irreducible_12 : decode cX3_irreducible 12 = .ok (.if_icmp .le 8, 3) := wtX3_irreducible_0.2.2.2.2.2.2.2.1
theorem dX3_irreducible_15 : decode cX3_irreducible 15 = .ok (.aload_n 0, 1) := wtX3_irreducible_0.2.2.2.2.2.2.2.2.1
theorem dX3_irreducible_16 : decode cX3_irreducible 16 = .ok (.invokevirtual 73, 3) := wtX3_irreducible_0.2.2.2.2.2.2.2.2.2.1
theorem dX3_irreducible_19 : decode cX3_irreducible 19 = .ok (.ireturn, 1) := wtX3_irreducible_0.2.2.2.2.2.2.2.2.2.2.1
theorem dX3_irreducible_20 : decode cX3_irreducible 20 = .ok (.lload_n 2, 1) := wtX3_irreducible_0.2.2.2.2.2.2.2.2.2.2.2.1
theorem dX3_irreducible_21 : decode cX3_irreducible 21 = .ok (.invokestatic 144, 3) := wtX3_irreducible_0.2.2.2.2.2.2.2.2.2.2.2.2.1
theorem wtX3_irreducible_24 : dwcj cX3_irreducible 24 [(0, .ifCond .eq 7, 3), (3, .iconst 1, 1), (4, .goto 4, 3), (7, .iconst 0, 1), (8, .ireturn, 1)] := dw_all (l := [153, 0, 7, 4, 167, 0, 4, 3, 172]) (by decide +kernel)
theorem dX3_irreducible_24 : decode cX3_irreducible 24 = .ok (.ifCond .eq 7, 3) := wtX3_irreducible_24.1
theorem dX3_irreducible_27 : decode cX3_irreducible 27 = .ok (.iconst 1, 1) := wtX3_irreducible_24.2.1
theorem dX3_irreducible_28 : decode cX3_irreducible 28 = .ok (.goto 4, 3) := wtX3_irreducible_24.2.2.1
theorem dX3_irreducible_31 : decode cX3_irreducible 31 = .ok (.iconst 0, 1) := wtX3_irreducible_24.2.2.2.1
theorem dX3_irreducible_32 : decode cX3_irreducible 32 = .ok (.ireturn, 1) := wtX3_irreducible_24.2.2.2.2.1
theorem wtX3_rank_0 : dwcj cX3_rank 0 [(0, .aload_n 0, 1), (1, .iload_n 1, 1), (2, .invokevirtual 43, 3), (5, .lstore_n 2, 1), (6, .lload_n 2, 1), (7, .invokestatic 69, 3), (10, .bipush 8, 2), (12, .if_icmp .le 8, 3), (15, .aload_n 0, 1), (16, .invokevirtual 73, 3), (19, .ireturn, 1), (20, .lload_n 2, 1), (21, .invokestatic 144, 3)] := dw_all (l := [42, 27, 182, 0, 43, 65, 32, 184, 0, 69, 16, 8, 164, 0, 8, 42, 182, 0, 73, 172, 32, 184, 0, 144]) (by decide +kernel)
theorem dX3_rank_0 : decode cX3_rank 0 = .ok (.aload_n 0, 1) := wtX3_rank_0.1
theorem dX3_rank_1 : decode cX3_rank 1 = .ok (.iload_n 1, 1) := wtX3_rank_0.2.1
theorem dX3_rank_2 : decode cX3_rank 2 = .ok (.invokevirtual 43, 3) := wtX3_rank_0.2.2.1
theorem dX3_rank_5 : decode cX3_rank 5 = .ok (.lstore_n 2, 1) := wtX3_rank_0.2.2.2.1
theorem dX3_rank_6 : decode cX3_rank 6 = .ok (.lload_n 2, 1) := wtX3_rank_0.2.2.2.2.1
theorem dX3_rank_7 : decode cX3_rank 7 = .ok (.invokestatic 69, 3) := wtX3_rank_0.2.2.2.2.2.1
theorem dX3_rank_10 : decode cX3_rank 10 = .ok (.bipush 8, 2) := wtX3_rank_0.2.2.2.2.2.2.1
theorem dX3_rank_12 : decode cX3_rank 12 = .ok (.if_icmp .le 8, 3) := wtX3_rank_0.2.2.2.2.2.2.2.1
theorem dX3_rank_15 : decode cX3_rank 15 = .ok (.aload_n 0, 1) := wtX3_rank_0.2.2.2.2.2.2.2.2.1
theorem dX3_rank_16 : decode cX3_rank 16 = .ok (.invokevirtual 73, 3) := wtX3_rank_0.2.2.2.2.2.2.2.2.2.1
theorem dX3_rank_19 : decode cX3_rank 19 = .ok (.ireturn, 1) := wtX3_rank_0.2.2.2.2.2.2.2.2.2.2.1
theorem dX3_rank_20 : decode cX3_rank 20 = .ok (.lload_n 2, 1) := wtX3_rank_0.2.2.2.2.2.2.2.2.2.2.2.1
theorem dX3_rank_21 : decode cX3_rank 21 = .ok (.invokestatic 144, 3) := wtX3_rank_0.2.2.2.2.2.2.2.2.2.2.2.2.1
theorem wtX3_rank_24 : dwcj cX3_rank 24 [(0, .ifCond .eq 14, 3), (3, .lload_n 2, 1), (4, .invokestatic 69, 3), (7, .lload_n 2, 1), (8, .invokestatic 148, 3), (11, .goto 4, 3), (14, .iconst (-1), 1), (15, .ireturn, 1)] := dw_all (l := [153, 0, 14, 32, 184, 0, 69, 32, 184, 0, 148, 167, 0, 4, 2, 172]) (by decide +kernel)
theorem dX3_rank_24 : decode cX3_rank 24 = .ok (.ifCond .eq 14, 3) := wtX3_rank_24.1
theorem dX3_rank_27 : decode cX3_rank 27 = .ok (.lload_n 2, 1) := wtX3_rank_24.2.1
theorem dX3_rank_28 : decode cX3_rank 28 = .ok (.invokestatic 69, 3) := wtX3_rank_24.2.2.1
theorem dX3_rank_31 : decode cX3_rank 31 = .ok (.lload_n 2, 1) := wtX3_rank_24.2.2.2.1
theorem dX3_rank_32 : decode cX3_rank 32 = .ok (.invokestatic 148, 3) := wtX3_rank_24.2.2.2.2.1
theorem dX3_rank_35 : decode cX3_rank 35 = .ok (.goto 4, 3) := wtX3_rank_24.2.2.2.2.2.1
theorem dX3_rank_38 : decode cX3_rank 38 = .ok (.iconst (-1), 1) := wtX3_rank_24.2.2.2.2.2.2.1
theorem dX3_rank_39 : decode cX3_rank 39 = .ok (.ireturn, 1) := wtX3_rank_24.2.2.2.2.2.2.2.1
theorem wtX3_factors_0 : dwcj cX3_factors 0 [(0, .aload_n 0, 1), (1, .iload_n 1, 1), (2, .invokevirtual 43, 3), (5, .lstore_n 2, 1), (6, .lload_n 2, 1), (7, .iconst 0, 1), (8, .bipush 8, 2), (10, .invokestatic 105, 3), (13, .ifCond .ne 11, 3), (16, .aload_n 0, 1), (17, .invokevirtual 73, 3), (20, .pop, 1), (21, .ldc 151, 2), (23, .areturn, 1)] := dw_all (l := [42, 27, 182, 0, 43, 65, 32, 3, 16, 8, 184, 0, 105, 154, 0, 11, 42, 182, 0, 73, 87, 18, 151, 176]) (by decide +kernel)
theorem dX3_factors_0 : decode cX3_factors 0 = .ok (.aload_n 0, 1) := wtX3_factors_0.1
theorem dX3_factors_1 : decode cX3_factors 1 = .ok (.iload_n 1, 1) := wtX3_factors_0.2.1
theorem dX3_factors_2 : decode cX3_factors 2 = .ok (.invokevirtual 43, 3) := wtX3_factors_0.2.2.1
theorem dX3_factors_5 : decode cX3_factors 5 = .ok (.lstore_n 2, 1) := wtX3_factors_0.2.2.2.1
theorem dX3_factors_6 : decode cX3_factors 6 = .ok (.lload_n 2, 1) := wtX3_factors_0.2.2.2.2.1
theorem dX3_factors_7 : decode cX3_factors 7 = .ok (.iconst 0, 1) := wtX3_factors_0.2.2.2.2.2.1
theorem dX3_factors_8 : decode cX3_factors 8 = .ok (.bipush 8, 2) := wtX3_factors_0.2.2.2.2.2.2.1
theorem dX3_factors_10 : decode cX3_factors 10 = .ok (.invokestatic 105, 3) := wtX3_factors_0.2.2.2.2.2.2.2.1
theorem dX3_factors_13 : decode cX3_factors 13 = .ok (.ifCond .ne 11, 3) := wtX3_factors_0.2.2.2.2.2.2.2.2.1
theorem dX3_factors_16 : decode cX3_factors 16 = .ok (.aload_n 0, 1) := wtX3_factors_0.2.2.2.2.2.2.2.2.2.1
theorem dX3_factors_17 : decode cX3_factors 17 = .ok (.invokevirtual 73, 3) := wtX3_factors_0.2.2.2.2.2.2.2.2.2.2.1
theorem dX3_factors_20 : decode cX3_factors 20 = .ok (.pop, 1) := wtX3_factors_0.2.2.2.2.2.2.2.2.2.2.2.1
theorem dX3_factors_21 : decode cX3_factors 21 = .ok (.ldc 151, 2) := wtX3_factors_0.2.2.2.2.2.2.2.2.2.2.2.2.1
theorem dX3_factors_23 : decode cX3_factors 23 = .ok (.areturn, 1) := wtX3_factors_0.2.2.2.2.2.2.2.2.2.2.2.2.2.1
theorem wtX3_factors_24 : dwcj cX3_factors 24 [(0, .lload_n 2, 1), (1, .invokestatic 153, 3), (4, .areturn, 1)] := dw_all (l := [32, 184, 0, 153, 176]) (by decide +kernel)
theorem dX3_factors_24 : decode cX3_factors 24 = .ok (.lload_n 2, 1) := wtX3_factors_24.1
theorem dX3_factors_25 : decode cX3_factors 25 = .ok (.invokestatic 153, 3) := wtX3_factors_24.2.1
theorem dX3_factors_28 : decode cX3_factors 28 = .ok (.areturn, 1) := wtX3_factors_24.2.2.1
theorem wtX3_period_0 : dwcj cX3_period 0 [(0, .aload_n 0, 1), (1, .iload_n 1, 1), (2, .invokevirtual 43, 3), (5, .lstore_n 2, 1), (6, .lload_n 2, 1), (7, .iconst 1, 1), (8, .bipush 8, 2), (10, .invokestatic 105, 3), (13, .ifCond .eq 11, 3), (16, .lload_n 2, 1), (17, .iconst 0, 1), (18, .invokestatic 48, 3), (21, .ifCond .ne 8, 3)] := dw_all (l := [42, 27, 182, 0, 43, 65, 32, 4, 16, 8, 184, 0, 105, 153, 0, 11, 32, 3, 184, 0, 48, 154, 0, 8]) (by decide +kernel)
theorem dX3_period_0 : decode cX3_period 0 = .ok (.aload_n 0, 1) := wtX3_period_0.1
theorem dX3_period_1 : decode cX3_period 1 = .ok (.iload_n 1, 1) := wtX3_period_0.2.1
theorem dX3_period_2 : decode cX3_period 2 = .ok (.invokevirtual 43, 3) := wtX3_period_0.2.2.1
theorem dX3_period_5 : decode cX3_period 5 = .ok (.lstore_n 2, 1) := wtX3_period_0.2.2.2.1
theorem dX3_period_6 : decode cX3_period 6 = .ok (.lload_n 2, 1) := wtX3_period_0.2.2.2.2.1
theorem dX3_period_7 : decode cX3_period 7 = .ok (.iconst 1, 1) := wtX3_period_0.2.2.2.2.2.1
theorem dX3_period_8 : decode cX3_period 8 = .ok (.bipush 8, 2) := wtX3_period_0.2.2.2.2.2.2.1
theorem dX3_period_10 : decode cX3_period 10 = .ok (.invokestatic 105, 3) := wtX3_period_0.2.2.2.2.2.2.2.1
theorem dX3_period_13 : decode cX3_period 13 = .ok (.ifCond .eq 11, 3) := wtX3_period_0.2.2.2.2.2.2.2.2.1
theorem dX3_period_16 : decode cX3_period 16 = .ok (.lload_n 2, 1) := wtX3_period_0.2.2.2.2.2.2.2.2.2.1
theorem dX3_period_17 : decode cX3_period 17 = .ok (.iconst 0, 1) := wtX3_period_0.2.2.2.2.2.2.2.2.2.2.1
theorem dX3_period_18 : decode cX3_period 18 = .ok (.invokestatic 48, 3) := wtX3_period_0.2.2.2.2.2.2.2.2.2.2.2.1
theorem dX3_period_21 : decode cX3_period 21 = .ok (.ifCond .ne 8, 3) := wtX3_period_0.2.2.2.2.2.2.2.2.2.2.2.2.1
theorem wtX3_period_24 : dwcj cX3_period 24 [(0, .aload_n 0, 1), (1, .invokevirtual 73, 3), (4, .ireturn, 1), (5, .lload_n 2, 1), (6, .invokestatic 156, 3), (9, .ireturn, 1)] := dw_all (l := [42, 182, 0, 73, 172, 32, 184, 0, 156, 172]) (by decide +kernel)
theorem dX3_period_24 : decode cX3_period 24 = .ok (.aload_n 0, 1) := wtX3_period_24.1
theorem dX3_period_25 : decode cX3_period 25 = .ok (.invokevirtual 73, 3) := wtX3_period_24.2.1
theorem dX3_period_28 : decode cX3_period 28 = .ok (.ireturn, 1) := wtX3_period_24.2.2.1
theorem dX3_period_29 : decode cX3_period 29 = .ok (.lload_n 2, 1) := wtX3_period_24.2.2.2.1
theorem dX3_period_30 : decode cX3_period 30 = .ok (.invokestatic 156, 3) := wtX3_period_24.2.2.2.2.1
theorem dX3_period_33 : decode cX3_period 33 = .ok (.ireturn, 1) := wtX3_period_24.2.2.2.2.2.1
theorem wtX3_many_0 : dwcj cX3_many 0 [(0, .iload_n 1, 1), (1, .iconst 1, 1), (2, .bipush 8, 2), (4, .invokestatic 33, 3), (7, .iload_n 1, 1), (8, .iload_n 1, 1), (9, .iconst 1, 1), (10, .iadd, 1), (11, .invokestatic 37, 3), (14, .invokestatic 148, 3), (17, .ireturn, 1)] := dw_all (l := [27, 4, 16, 8, 184, 0, 33, 27, 27, 4, 96, 184, 0, 37, 184, 0, 148, 172]) (by decide +kernel)
theorem dX3_many_0 : decode cX3_many 0 = .ok (.iload_n 1, 1) := wtX3_many_0.1
theorem dX3_many_1 : decode cX3_many 1 = .ok (.iconst 1, 1) := wtX3_many_0.2.1
theorem dX3_many_2 : decode cX3_many 2 = .ok (.bipush 8, 2) := wtX3_many_0.2.2.1
theorem dX3_many_4 : decode cX3_many 4 = .ok (.invokestatic 33, 3) := wtX3_many_0.2.2.2.1
theorem dX3_many_7 : decode cX3_many 7 = .ok (.iload_n 1, 1) := wtX3_many_0.2.2.2.2.1
theorem dX3_many_8 : decode cX3_many 8 = .ok (.iload_n 1, 1) := wtX3_many_0.2.2.2.2.2.1
theorem dX3_many_9 : decode cX3_many 9 = .ok (.iconst 1, 1) := wtX3_many_0.2.2.2.2.2.2.1
theorem dX3_many_10 : decode cX3_many 10 = .ok (.iadd, 1) := wtX3_many_0.2.2.2.2.2.2.2.1
theorem dX3_many_11 : decode cX3_many 11 = .ok (.invokestatic 37, 3) := wtX3_many_0.2.2.2.2.2.2.2.2.1
theorem dX3_many_14 : decode cX3_many 14 = .ok (.invokestatic 148, 3) := wtX3_many_0.2.2.2.2.2.2.2.2.2.1
theorem dX3_many_17 : decode cX3_many 17 = .ok (.ireturn, 1) := wtX3_many_0.2.2.2.2.2.2.2.2.2.2.1
theorem wtX3_formula_0 : dwcj cX3_formula 0 [(0, .iload_n 1, 1), (1, .iconst 1, 1), (2, .bipush 8, 2), (4, .invokestatic 33, 3), (7, .iload_n 1, 1), (8, .invokestatic 159, 3), (11, .ireturn, 1)] := dw_all (l := [27, 4, 16, 8, 184, 0, 33, 27, 184, 0, 159, 172]) (by decide +kernel)
theorem dX3_formula_0 : decode cX3_formula 0 = .ok (.iload_n 1, 1) := wtX3_formula_0.1
theorem dX3_formula_1 : decode cX3_formula 1 = .ok (.iconst 1, 1) := wtX3_formula_0.2.1
theorem dX3_formula_2 : decode cX3_formula 2 = .ok (.bipush 8, 2) := wtX3_formula_0.2.2.1
theorem dX3_formula_4 : decode cX3_formula 4 = .ok (.invokestatic 33, 3) := wtX3_formula_0.2.2.2.1
theorem dX3_formula_7 : decode cX3_formula 7 = .ok (.iload_n 1, 1) := wtX3_formula_0.2.2.2.2.1
theorem dX3_formula_8 : decode cX3_formula 8 = .ok (.invokestatic 159, 3) := wtX3_formula_0.2.2.2.2.2.1
theorem dX3_formula_11 : decode cX3_formula 11 = .ok (.ireturn, 1) := wtX3_formula_0.2.2.2.2.2.2.1
theorem wtX3_find_0 : dwcj cX3_find 0 [(0, .aload_n 0, 1), (1, .iload_n 1, 1), (2, .invokevirtual 43, 3), (5, .lstore_n 3, 1), (6, .iload_n 1, 1), (7, .istore 5, 2), (9, .iconst 0, 1), (10, .istore 6, 2), (12, .iload 6, 2), (14, .aload_n 0, 1), (15, .getfield 9, 3), (18, .arraylength, 1), (19, .if_icmp .ge 46, 3), (22, .aload_n 0, 1), (23, .getfield 9, 3)] := dw_all (l := [42, 27, 182, 0, 43, 66, 27, 54, 5, 3, 54, 6, 21, 6, 42, 180, 0, 9, 190, 162, 0, 46, 42, 180, 0, 9]) (by decide +kernel)
theorem dX3_find_0 : decode cX3_find 0 = .ok (.aload_n 0, 1) := wtX3_find_0.1
theorem dX3_find_1 : decode cX3_find 1 = .ok (.iload_n 1, 1) := wtX3_find_0.2.1
theorem dX3_find_2 : decode cX3_find 2 = .ok (.invokevirtual 43, 3) := wtX3_find_0.2.2.1
theorem dX3_find_5 : decode cX3_find 5 = .ok (.lstore_n 3, 1) := wtX3_find_0.2.2.2.1
theorem dX3_find_6 : decode cX3_find 6 = .ok (.iload_n 1, 1) := wtX3_find_0.2.2.2.2.1
theorem dX3_find_7 : decode cX3_find 7 = .ok (.istore 5, 2) := wtX3_find_0.2.2.2.2.2.1
theorem dX3_find_9 : decode cX3_find 9 = .ok (.iconst 0, 1) := wtX3_find_0.2.2.2.2.2.2.1
theorem dX3_find_10 : decode cX3_find 10 = .ok (.istore 6, 2) := wtX3_find_0.2.2.2.2.2.2.2.1
theorem dX3_find_12 : decode cX3_find 12 = .ok (.iload 6, 2) := wtX3_find_0.2.2.2.2.2.2.2.2.1
theorem dX3_find_14 : decode cX3_find 14 = .ok (.aload_n 0, 1) := wtX3_find_0.2.2.2.2.2.2.2.2.2.1
theorem dX3_find_15 : decode cX3_find 15 = .ok (.getfield 9, 3) := wtX3_find_0.2.2.2.2.2.2.2.2.2.2.1
theorem dX3_find_18 : decode cX3_find 18 = .ok (.arraylength, 1) := wtX3_find_0.2.2.2.2.2.2.2.2.2.2.2.1
theorem dX3_find_19 : decode cX3_find 19 = .ok (.if_icmp .ge 46, 3) := wtX3_find_0.2.2.2.2.2.2.2.2.2.2.2.2.1
theorem dX3_find_22 : decode cX3_find 22 = .ok (.aload_n 0, 1) := wtX3_find_0.2.2.2.2.2.2.2.2.2.2.2.2.2.1
theorem dX3_find_23 : decode cX3_find 23 = .ok (.getfield 9, 3) := wtX3_find_0.2.2.2.2.2.2.2.2.2.2.2.2.2.2.1
theorem wtX3_find_26 : dwcj cX3_find 26 [(0, .iload 6, 2), (2, .laload, 1), (3, .lload_n 3, 1), (4, .lcmp, 1), (5, .ifCond .ne 28, 3), (8, .iload_n 2, 1), (9, .ifCond .eq 13, 3), (12, .iload 6, 2), (14, .iload 5, 2), (16, .if_icmp .le 17, 3), (19, .goto 10, 3), (22, .iload 6, 2)] := dw_all (l := [21, 6, 47, 33, 148, 154, 0, 28, 28, 153, 0, 13, 21, 6, 21, 5, 164, 0, 17, 167, 0, 10, 21, 6]) (by decide +kernel)
theorem dX3_find_26 : decode cX3_find 26 = .ok (.iload 6, 2) := wtX3_find_26.1
theorem dX3_find_28 : decode cX3_find 28 = .ok (.laload, 1) := wtX3_find_26.2.1
theorem dX3_find_29 : decode cX3_find 29 = .ok (.lload_n 3, 1) := wtX3_find_26.2.2.1
theorem dX3_find_30 : decode cX3_find 30 = .ok (.lcmp, 1) := wtX3_find_26.2.2.2.1
theorem dX3_find_31 : decode cX3_find 31 = .ok (.ifCond .ne 28, 3) := wtX3_find_26.2.2.2.2.1
theorem dX3_find_34 : decode cX3_find 34 = .ok (.iload_n 2, 1) := wtX3_find_26.2.2.2.2.2.1
theorem dX3_find_35 : decode cX3_find 35 = .ok (.ifCond .eq 13, 3) := wtX3_find_26.2.2.2.2.2.2.1
theorem dX3_find_38 : decode cX3_find 38 = .ok (.iload 6, 2) := wtX3_find_26.2.2.2.2.2.2.2.1
theorem dX3_find_40 : decode cX3_find 40 = .ok (.iload 5, 2) := wtX3_find_26.2.2.2.2.2.2.2.2.1
theorem dX3_find_42 : decode cX3_find 42 = .ok (.if_icmp .le 17, 3) := wtX3_find_26.2.2.2.2.2.2.2.2.2.1
theorem dX3_find_45 : decode cX3_find 45 = .ok (.goto 10, 3) := wtX3_find_26.2.2.2.2.2.2.2.2.2.2.1
theorem dX3_find_48 : decode cX3_find 48 = .ok (.iload 6, 2) := wtX3_find_26.2.2.2.2.2.2.2.2.2.2.2.1
theorem wtX3_find_50 : dwcj cX3_find 50 [(0, .iload 5, 2), (2, .if_icmp .ge 7, 3), (5, .iload 6, 2), (7, .istore 5, 2), (9, .iinc 6 1, 3), (12, .goto (-50), 3), (15, .iload 5, 2), (17, .ireturn, 1)] := dw_all (l := [21, 5, 162, 0, 7, 21, 6, 54, 5, 132, 6, 1, 167, 255, 206, 21, 5, 172]) (by decide +kernel)
theorem dX3_find_50 : decode cX3_find 50 = .ok (.iload 5, 2) := wtX3_find_50.1
theorem dX3_find_52 : decode cX3_find 52 = .ok (.if_icmp .ge 7, 3) := wtX3_find_50.2.1
theorem dX3_find_55 : decode cX3_find 55 = .ok (.iload 6, 2) := wtX3_find_50.2.2.1
theorem dX3_find_57 : decode cX3_find 57 = .ok (.istore 5, 2) := wtX3_find_50.2.2.2.1
theorem dX3_find_59 : decode cX3_find 59 = .ok (.iinc 6 1, 3) := wtX3_find_50.2.2.2.2.1
theorem dX3_find_62 : decode cX3_find 62 = .ok (.goto (-50), 3) := wtX3_find_50.2.2.2.2.2.1
theorem dX3_find_65 : decode cX3_find 65 = .ok (.iload 5, 2) := wtX3_find_50.2.2.2.2.2.2.1
theorem dX3_find_67 : decode cX3_find 67 = .ok (.ireturn, 1) := wtX3_find_50.2.2.2.2.2.2.2.1
theorem wtX3_house_0 : dwcj cX3_house 0 [(0, .iload_n 1, 1), (1, .iconst 0, 1), (2, .iconst 4, 1), (3, .invokestatic 33, 3), (6, .iload_n 1, 1)] := dw_all (l := [27, 3, 7, 184, 0, 33, 27]) (by decide +kernel)
theorem dX3_house_0 : decode cX3_house 0 = .ok (.iload_n 1, 1) := wtX3_house_0.1
theorem dX3_house_1 : decode cX3_house 1 = .ok (.iconst 0, 1) := wtX3_house_0.2.1
theorem dX3_house_2 : decode cX3_house 2 = .ok (.iconst 4, 1) := wtX3_house_0.2.2.1
theorem dX3_house_3 : decode cX3_house 3 = .ok (.invokestatic 33, 3) := wtX3_house_0.2.2.2.1
theorem dX3_house_6 : decode cX3_house 6 = .ok (.iload_n 1, 1) := wtX3_house_0.2.2.2.2.1
theorem dX3_house_7 : decode cX3_house 7 = .ok (.tableswitch 49 0 3 #[29, 34, 39, 44], 29) := by decide +kernel
theorem wtX3_house_36 : dwcj cX3_house 36 [(0, .aload_n 0, 1), (1, .getfield 13, 3), (4, .ireturn, 1), (5, .aload_n 0, 1), (6, .getfield 17, 3), (9, .ireturn, 1), (10, .aload_n 0, 1), (11, .getfield 20, 3), (14, .ireturn, 1), (15, .aload_n 0, 1), (16, .invokevirtual 163, 3), (19, .ireturn, 1), (20, .aload_n 0, 1), (21, .invokevirtual 166, 3)] := dw_all (l := [42, 180, 0, 13, 172, 42, 180, 0, 17, 172, 42, 180, 0, 20, 172, 42, 182, 0, 163, 172, 42, 182, 0, 166]) (by decide +kernel)
theorem dX3_house_36 : decode cX3_house 36 = .ok (.aload_n 0, 1) := wtX3_house_36.1
theorem dX3_house_37 : decode cX3_house 37 = .ok (.getfield 13, 3) := wtX3_house_36.2.1
theorem dX3_house_40 : decode cX3_house 40 = .ok (.ireturn, 1) := wtX3_house_36.2.2.1
theorem dX3_house_41 : decode cX3_house 41 = .ok (.aload_n 0, 1) := wtX3_house_36.2.2.2.1
theorem dX3_house_42 : decode cX3_house 42 = .ok (.getfield 17, 3) := wtX3_house_36.2.2.2.2.1
theorem dX3_house_45 : decode cX3_house 45 = .ok (.ireturn, 1) := wtX3_house_36.2.2.2.2.2.1
theorem dX3_house_46 : decode cX3_house 46 = .ok (.aload_n 0, 1) := wtX3_house_36.2.2.2.2.2.2.1
theorem dX3_house_47 : decode cX3_house 47 = .ok (.getfield 20, 3) := wtX3_house_36.2.2.2.2.2.2.2.1
theorem dX3_house_50 : decode cX3_house 50 = .ok (.ireturn, 1) := wtX3_house_36.2.2.2.2.2.2.2.2.1
theorem dX3_house_51 : decode cX3_house 51 = .ok (.aload_n 0, 1) := wtX3_house_36.2.2.2.2.2.2.2.2.2.1
theorem dX3_house_52 : decode cX3_house 52 = .ok (.invokevirtual 163, 3) := wtX3_house_36.2.2.2.2.2.2.2.2.2.2.1
theorem dX3_house_55 : decode cX3_house 55 = .ok (.ireturn, 1) := wtX3_house_36.2.2.2.2.2.2.2.2.2.2.2.1
theorem dX3_house_56 : decode cX3_house 56 = .ok (.aload_n 0, 1) := wtX3_house_36.2.2.2.2.2.2.2.2.2.2.2.2.1
theorem dX3_house_57 : decode cX3_house 57 = .ok (.invokevirtual 166, 3) := wtX3_house_36.2.2.2.2.2.2.2.2.2.2.2.2.2.1
theorem wtX3_house_60 : dwcj cX3_house 60 [(0, .ireturn, 1)] := dw_all (l := [172]) (by decide +kernel)
theorem dX3_house_60 : decode cX3_house 60 = .ok (.ireturn, 1) := wtX3_house_60.1
theorem wtX3_knock_0 : dwcj cX3_knock 0 [(0, .aload_n 0, 1), (1, .dup, 1), (2, .getfield 20, 3), (5, .iconst 1, 1), (6, .iadd, 1), (7, .putfield 20, 3), (10, .aload_n 0, 1), (11, .getfield 20, 3), (14, .ireturn, 1)] := dw_all (l := [42, 89, 180, 0, 20, 4, 96, 181, 0, 20, 42, 180, 0, 20, 172]) (by decide +kernel)
theorem dX3_knock_0 : decode cX3_knock 0 = .ok (.aload_n 0, 1) := wtX3_knock_0.1
theorem dX3_knock_1 : decode cX3_knock 1 = .ok (.dup, 1) := wtX3_knock_0.2.1
theorem dX3_knock_2 : decode cX3_knock 2 = .ok (.getfield 20, 3) := wtX3_knock_0.2.2.1
theorem dX3_knock_5 : decode cX3_knock 5 = .ok (.iconst 1, 1) := wtX3_knock_0.2.2.2.1
theorem dX3_knock_6 : decode cX3_knock 6 = .ok (.iadd, 1) := wtX3_knock_0.2.2.2.2.1
theorem dX3_knock_7 : decode cX3_knock 7 = .ok (.putfield 20, 3) := wtX3_knock_0.2.2.2.2.2.1
theorem dX3_knock_10 : decode cX3_knock 10 = .ok (.aload_n 0, 1) := wtX3_knock_0.2.2.2.2.2.2.1
theorem dX3_knock_11 : decode cX3_knock 11 = .ok (.getfield 20, 3) := wtX3_knock_0.2.2.2.2.2.2.2.1
theorem dX3_knock_14 : decode cX3_knock 14 = .ok (.ireturn, 1) := wtX3_knock_0.2.2.2.2.2.2.2.2.1
theorem wtX3_isSound_0 : dwcj cX3_isSound 0 [(0, .iconst 0, 1), (1, .istore_n 1, 1), (2, .iload_n 1, 1), (3, .aload_n 0, 1), (4, .getfield 9, 3), (7, .arraylength, 1), (8, .if_icmp .ge 40, 3), (11, .aload_n 0, 1), (12, .getfield 9, 3), (15, .iload_n 1, 1), (16, .laload, 1), (17, .invokestatic 69, 3), (20, .istore_n 2, 1), (21, .iload_n 2, 1), (22, .bipush 32, 2)] := dw_all (l := [3, 60, 27, 42, 180, 0, 9, 190, 162, 0, 40, 42, 180, 0, 9, 27, 47, 184, 0, 69, 61, 28, 16, 32]) (by decide +kernel)
theorem dX3_isSound_0 : decode cX3_isSound 0 = .ok (.iconst 0, 1) := wtX3_isSound_0.1
theorem dX3_isSound_1 : decode cX3_isSound 1 = .ok (.istore_n 1, 1) := wtX3_isSound_0.2.1
theorem dX3_isSound_2 : decode cX3_isSound 2 = .ok (.iload_n 1, 1) := wtX3_isSound_0.2.2.1
theorem dX3_isSound_3 : decode cX3_isSound 3 = .ok (.aload_n 0, 1) := wtX3_isSound_0.2.2.2.1
theorem dX3_isSound_4 : decode cX3_isSound 4 = .ok (.getfield 9, 3) := wtX3_isSound_0.2.2.2.2.1
theorem dX3_isSound_7 : decode cX3_isSound 7 = .ok (.arraylength, 1) := wtX3_isSound_0.2.2.2.2.2.1
theorem dX3_isSound_8 : decode cX3_isSound 8 = .ok (.if_icmp .ge 40, 3) := wtX3_isSound_0.2.2.2.2.2.2.1
theorem dX3_isSound_11 : decode cX3_isSound 11 = .ok (.aload_n 0, 1) := wtX3_isSound_0.2.2.2.2.2.2.2.1
theorem dX3_isSound_12 : decode cX3_isSound 12 = .ok (.getfield 9, 3) := wtX3_isSound_0.2.2.2.2.2.2.2.2.1
theorem dX3_isSound_15 : decode cX3_isSound 15 = .ok (.iload_n 1, 1) := wtX3_isSound_0.2.2.2.2.2.2.2.2.2.1
theorem dX3_isSound_16 : decode cX3_isSound 16 = .ok (.laload, 1) := wtX3_isSound_0.2.2.2.2.2.2.2.2.2.2.1
theorem dX3_isSound_17 : decode cX3_isSound 17 = .ok (.invokestatic 69, 3) := wtX3_isSound_0.2.2.2.2.2.2.2.2.2.2.2.1
theorem dX3_isSound_20 : decode cX3_isSound 20 = .ok (.istore_n 2, 1) := wtX3_isSound_0.2.2.2.2.2.2.2.2.2.2.2.2.1
theorem dX3_isSound_21 : decode cX3_isSound 21 = .ok (.iload_n 2, 1) := wtX3_isSound_0.2.2.2.2.2.2.2.2.2.2.2.2.2.1
theorem dX3_isSound_22 : decode cX3_isSound 22 = .ok (.bipush 32, 2) := wtX3_isSound_0.2.2.2.2.2.2.2.2.2.2.2.2.2.2.1
theorem wtX3_isSound_24 : dwcj cX3_isSound 24 [(0, .if_icmp .gt 16, 3), (3, .aload_n 0, 1), (4, .getfield 9, 3), (7, .iload_n 1, 1), (8, .laload, 1), (9, .invokestatic 122, 3), (12, .iload_n 2, 1), (13, .if_icmp .le 5, 3), (16, .iconst 0, 1), (17, .ireturn, 1), (18, .iinc 1 1, 3), (21, .goto (-43), 3)] := dw_all (l := [163, 0, 16, 42, 180, 0, 9, 27, 47, 184, 0, 122, 28, 164, 0, 5, 3, 172, 132, 1, 1, 167, 255, 213]) (by decide +kernel)
theorem dX3_isSound_24 : decode cX3_isSound 24 = .ok (.if_icmp .gt 16, 3) := wtX3_isSound_24.1
theorem dX3_isSound_27 : decode cX3_isSound 27 = .ok (.aload_n 0, 1) := wtX3_isSound_24.2.1
theorem dX3_isSound_28 : decode cX3_isSound 28 = .ok (.getfield 9, 3) := wtX3_isSound_24.2.2.1
theorem dX3_isSound_31 : decode cX3_isSound 31 = .ok (.iload_n 1, 1) := wtX3_isSound_24.2.2.2.1
theorem dX3_isSound_32 : decode cX3_isSound 32 = .ok (.laload, 1) := wtX3_isSound_24.2.2.2.2.1
theorem dX3_isSound_33 : decode cX3_isSound 33 = .ok (.invokestatic 122, 3) := wtX3_isSound_24.2.2.2.2.2.1
theorem dX3_isSound_36 : decode cX3_isSound 36 = .ok (.iload_n 2, 1) := wtX3_isSound_24.2.2.2.2.2.2.1
theorem dX3_isSound_37 : decode cX3_isSound 37 = .ok (.if_icmp .le 5, 3) := wtX3_isSound_24.2.2.2.2.2.2.2.1
theorem dX3_isSound_40 : decode cX3_isSound 40 = .ok (.iconst 0, 1) := wtX3_isSound_24.2.2.2.2.2.2.2.2.1
theorem dX3_isSound_41 : decode cX3_isSound 41 = .ok (.ireturn, 1) := wtX3_isSound_24.2.2.2.2.2.2.2.2.2.1
theorem dX3_isSound_42 : decode cX3_isSound 42 = .ok (.iinc 1 1, 3) := wtX3_isSound_24.2.2.2.2.2.2.2.2.2.2.1
theorem dX3_isSound_45 : decode cX3_isSound 45 = .ok (.goto (-43), 3) := wtX3_isSound_24.2.2.2.2.2.2.2.2.2.2.2.1
theorem wtX3_isSound_48 : dwcj cX3_isSound 48 [(0, .aload_n 0, 1), (1, .iconst 0, 1), (2, .invokevirtual 43, 3), (5, .lstore_n 1, 1), (6, .aload_n 0, 1), (7, .iconst 1, 1), (8, .invokevirtual 43, 3), (11, .lstore_n 3, 1), (12, .lload_n 1, 1), (13, .lload_n 1, 1), (14, .lload_n 3, 1), (15, .invokestatic 86, 3), (18, .invokestatic 169, 3), (21, .lload_n 3, 1), (22, .lload_n 1, 1), (23, .lload_n 3, 1)] := dw_all (l := [42, 3, 182, 0, 43, 64, 42, 4, 182, 0, 43, 66, 31, 31, 33, 184, 0, 86, 184, 0, 169, 33, 31, 33]) (by decide +kernel)
theorem dX3_isSound_48 : decode cX3_isSound 48 = .ok (.aload_n 0, 1) := wtX3_isSound_48.1
theorem dX3_isSound_49 : decode cX3_isSound 49 = .ok (.iconst 0, 1) := wtX3_isSound_48.2.1
theorem dX3_isSound_50 : decode cX3_isSound 50 = .ok (.invokevirtual 43, 3) := wtX3_isSound_48.2.2.1
theorem dX3_isSound_53 : decode cX3_isSound 53 = .ok (.lstore_n 1, 1) := wtX3_isSound_48.2.2.2.1
theorem dX3_isSound_54 : decode cX3_isSound 54 = .ok (.aload_n 0, 1) := wtX3_isSound_48.2.2.2.2.1
theorem dX3_isSound_55 : decode cX3_isSound 55 = .ok (.iconst 1, 1) := wtX3_isSound_48.2.2.2.2.2.1
theorem dX3_isSound_56 : decode cX3_isSound 56 = .ok (.invokevirtual 43, 3) := wtX3_isSound_48.2.2.2.2.2.2.1
theorem dX3_isSound_59 : decode cX3_isSound 59 = .ok (.lstore_n 3, 1) := wtX3_isSound_48.2.2.2.2.2.2.2.1
theorem dX3_isSound_60 : decode cX3_isSound 60 = .ok (.lload_n 1, 1) := wtX3_isSound_48.2.2.2.2.2.2.2.2.1
theorem dX3_isSound_61 : decode cX3_isSound 61 = .ok (.lload_n 1, 1) := wtX3_isSound_48.2.2.2.2.2.2.2.2.2.1
theorem dX3_isSound_62 : decode cX3_isSound 62 = .ok (.lload_n 3, 1) := wtX3_isSound_48.2.2.2.2.2.2.2.2.2.2.1
theorem dX3_isSound_63 : decode cX3_isSound 63 = .ok (.invokestatic 86, 3) := wtX3_isSound_48.2.2.2.2.2.2.2.2.2.2.2.1
theorem dX3_isSound_66 : decode cX3_isSound 66 = .ok (.invokestatic 169, 3) := wtX3_isSound_48.2.2.2.2.2.2.2.2.2.2.2.2.1
theorem dX3_isSound_69 : decode cX3_isSound 69 = .ok (.lload_n 3, 1) := wtX3_isSound_48.2.2.2.2.2.2.2.2.2.2.2.2.2.1
theorem dX3_isSound_70 : decode cX3_isSound 70 = .ok (.lload_n 1, 1) := wtX3_isSound_48.2.2.2.2.2.2.2.2.2.2.2.2.2.2.1
theorem dX3_isSound_71 : decode cX3_isSound 71 = .ok (.lload_n 3, 1) := wtX3_isSound_48.2.2.2.2.2.2.2.2.2.2.2.2.2.2.2.1
theorem wtX3_isSound_72 : dwcj cX3_isSound 72 [(0, .invokestatic 89, 3), (3, .invokestatic 169, 3), (6, .lxor, 1), (7, .lstore 5, 2), (9, .lload_n 1, 1), (10, .lload_n 3, 1), (11, .invokestatic 83, 3), (14, .lload 5, 2), (16, .lcmp, 1), (17, .ifCond .ne 7, 3), (20, .iconst 1, 1), (21, .goto 4, 3)] := dw_all (l := [184, 0, 89, 184, 0, 169, 131, 55, 5, 31, 33, 184, 0, 83, 22, 5, 148, 154, 0, 7, 4, 167, 0, 4]) (by decide +kernel)
theorem dX3_isSound_72 : decode cX3_isSound 72 = .ok (.invokestatic 89, 3) := wtX3_isSound_72.1
theorem dX3_isSound_75 : decode cX3_isSound 75 = .ok (.invokestatic 169, 3) := wtX3_isSound_72.2.1
theorem dX3_isSound_78 : decode cX3_isSound 78 = .ok (.lxor, 1) := wtX3_isSound_72.2.2.1
theorem dX3_isSound_79 : decode cX3_isSound 79 = .ok (.lstore 5, 2) := wtX3_isSound_72.2.2.2.1
theorem dX3_isSound_81 : decode cX3_isSound 81 = .ok (.lload_n 1, 1) := wtX3_isSound_72.2.2.2.2.1
theorem dX3_isSound_82 : decode cX3_isSound 82 = .ok (.lload_n 3, 1) := wtX3_isSound_72.2.2.2.2.2.1
theorem dX3_isSound_83 : decode cX3_isSound 83 = .ok (.invokestatic 83, 3) := wtX3_isSound_72.2.2.2.2.2.2.1
theorem dX3_isSound_86 : decode cX3_isSound 86 = .ok (.lload 5, 2) := wtX3_isSound_72.2.2.2.2.2.2.2.1
theorem dX3_isSound_88 : decode cX3_isSound 88 = .ok (.lcmp, 1) := wtX3_isSound_72.2.2.2.2.2.2.2.2.1
theorem dX3_isSound_89 : decode cX3_isSound 89 = .ok (.ifCond .ne 7, 3) := wtX3_isSound_72.2.2.2.2.2.2.2.2.2.1
theorem dX3_isSound_92 : decode cX3_isSound 92 = .ok (.iconst 1, 1) := wtX3_isSound_72.2.2.2.2.2.2.2.2.2.2.1
theorem dX3_isSound_93 : decode cX3_isSound 93 = .ok (.goto 4, 3) := wtX3_isSound_72.2.2.2.2.2.2.2.2.2.2.2.1
theorem wtX3_isSound_96 : dwcj cX3_isSound 96 [(0, .iconst 0, 1), (1, .ireturn, 1)] := dw_all (l := [3, 172]) (by decide +kernel)
theorem dX3_isSound_96 : decode cX3_isSound 96 = .ok (.iconst 0, 1) := wtX3_isSound_96.1
theorem dX3_isSound_97 : decode cX3_isSound 97 = .ok (.ireturn, 1) := wtX3_isSound_96.2.1
theorem wtX3_digest_0 : dwcj cX3_digest 0 [(0, .ldc2_w 172, 3), (3, .lstore_n 1, 1), (4, .iconst 0, 1), (5, .istore_n 3, 1), (6, .iload_n 3, 1), (7, .bipush 6, 2), (9, .if_icmp .ge 75, 3), (12, .lload_n 1, 1), (13, .ldc2_w 174, 3), (16, .lmul, 1), (17, .aload_n 0, 1), (18, .iload_n 3, 1), (19, .invokevirtual 176, 3), (22, .i2l, 1), (23, .ladd, 1)] := dw_all (l := [20, 0, 172, 64, 3, 62, 29, 16, 6, 162, 0, 75, 31, 20, 0, 174, 105, 42, 29, 182, 0, 176, 133, 97]) (by decide +kernel)
theorem dX3_digest_0 : decode cX3_digest 0 = .ok (.ldc2_w 172, 3) := wtX3_digest_0.1
theorem dX3_digest_3 : decode cX3_digest 3 = .ok (.lstore_n 1, 1) := wtX3_digest_0.2.1
theorem dX3_digest_4 : decode cX3_digest 4 = .ok (.iconst 0, 1) := wtX3_digest_0.2.2.1
theorem dX3_digest_5 : decode cX3_digest 5 = .ok (.istore_n 3, 1) := wtX3_digest_0.2.2.2.1
theorem dX3_digest_6 : decode cX3_digest 6 = .ok (.iload_n 3, 1) := wtX3_digest_0.2.2.2.2.1
theorem dX3_digest_7 : decode cX3_digest 7 = .ok (.bipush 6, 2) := wtX3_digest_0.2.2.2.2.2.1
theorem dX3_digest_9 : decode cX3_digest 9 = .ok (.if_icmp .ge 75, 3) := wtX3_digest_0.2.2.2.2.2.2.1
theorem dX3_digest_12 : decode cX3_digest 12 = .ok (.lload_n 1, 1) := wtX3_digest_0.2.2.2.2.2.2.2.1
theorem dX3_digest_13 : decode cX3_digest 13 = .ok (.ldc2_w 174, 3) := wtX3_digest_0.2.2.2.2.2.2.2.2.1
theorem dX3_digest_16 : decode cX3_digest 16 = .ok (.lmul, 1) := wtX3_digest_0.2.2.2.2.2.2.2.2.2.1
theorem dX3_digest_17 : decode cX3_digest 17 = .ok (.aload_n 0, 1) := wtX3_digest_0.2.2.2.2.2.2.2.2.2.2.1
theorem dX3_digest_18 : decode cX3_digest 18 = .ok (.iload_n 3, 1) := wtX3_digest_0.2.2.2.2.2.2.2.2.2.2.2.1
theorem dX3_digest_19 : decode cX3_digest 19 = .ok (.invokevirtual 176, 3) := wtX3_digest_0.2.2.2.2.2.2.2.2.2.2.2.2.1
theorem dX3_digest_22 : decode cX3_digest 22 = .ok (.i2l, 1) := wtX3_digest_0.2.2.2.2.2.2.2.2.2.2.2.2.2.1
theorem dX3_digest_23 : decode cX3_digest 23 = .ok (.ladd, 1) := wtX3_digest_0.2.2.2.2.2.2.2.2.2.2.2.2.2.2.1
theorem wtX3_digest_24 : dwcj cX3_digest 24 [(0, .lstore_n 1, 1), (1, .lload_n 1, 1), (2, .ldc2_w 174, 3), (5, .lmul, 1), (6, .aload_n 0, 1), (7, .iload_n 3, 1), (8, .invokevirtual 179, 3), (11, .i2l, 1), (12, .ladd, 1), (13, .lstore_n 1, 1), (14, .lload_n 1, 1), (15, .ldc2_w 174, 3), (18, .lmul, 1), (19, .aload_n 0, 1), (20, .iload_n 3, 1), (21, .invokevirtual 182, 3)] := dw_all (l := [64, 31, 20, 0, 174, 105, 42, 29, 182, 0, 179, 133, 97, 64, 31, 20, 0, 174, 105, 42, 29, 182, 0, 182]) (by decide +kernel)
theorem dX3_digest_24 : decode cX3_digest 24 = .ok (.lstore_n 1, 1) := wtX3_digest_24.1
theorem dX3_digest_25 : decode cX3_digest 25 = .ok (.lload_n 1, 1) := wtX3_digest_24.2.1
theorem dX3_digest_26 : decode cX3_digest 26 = .ok (.ldc2_w 174, 3) := wtX3_digest_24.2.2.1
theorem dX3_digest_29 : decode cX3_digest 29 = .ok (.lmul, 1) := wtX3_digest_24.2.2.2.1
theorem dX3_digest_30 : decode cX3_digest 30 = .ok (.aload_n 0, 1) := wtX3_digest_24.2.2.2.2.1
theorem dX3_digest_31 : decode cX3_digest 31 = .ok (.iload_n 3, 1) := wtX3_digest_24.2.2.2.2.2.1
theorem dX3_digest_32 : decode cX3_digest 32 = .ok (.invokevirtual 179, 3) := wtX3_digest_24.2.2.2.2.2.2.1
theorem dX3_digest_35 : decode cX3_digest 35 = .ok (.i2l, 1) := wtX3_digest_24.2.2.2.2.2.2.2.1
theorem dX3_digest_36 : decode cX3_digest 36 = .ok (.ladd, 1) := wtX3_digest_24.2.2.2.2.2.2.2.2.1
theorem dX3_digest_37 : decode cX3_digest 37 = .ok (.lstore_n 1, 1) := wtX3_digest_24.2.2.2.2.2.2.2.2.2.1
theorem dX3_digest_38 : decode cX3_digest 38 = .ok (.lload_n 1, 1) := wtX3_digest_24.2.2.2.2.2.2.2.2.2.2.1
theorem dX3_digest_39 : decode cX3_digest 39 = .ok (.ldc2_w 174, 3) := wtX3_digest_24.2.2.2.2.2.2.2.2.2.2.2.1
theorem dX3_digest_42 : decode cX3_digest 42 = .ok (.lmul, 1) := wtX3_digest_24.2.2.2.2.2.2.2.2.2.2.2.2.1
theorem dX3_digest_43 : decode cX3_digest 43 = .ok (.aload_n 0, 1) := wtX3_digest_24.2.2.2.2.2.2.2.2.2.2.2.2.2.1
theorem dX3_digest_44 : decode cX3_digest 44 = .ok (.iload_n 3, 1) := wtX3_digest_24.2.2.2.2.2.2.2.2.2.2.2.2.2.2.1
theorem dX3_digest_45 : decode cX3_digest 45 = .ok (.invokevirtual 182, 3) := wtX3_digest_24.2.2.2.2.2.2.2.2.2.2.2.2.2.2.2.1
theorem wtX3_digest_48 : dwcj cX3_digest 48 [(0, .i2l, 1), (1, .ladd, 1), (2, .lstore_n 1, 1), (3, .lload_n 1, 1), (4, .ldc2_w 174, 3), (7, .lmul, 1), (8, .aload_n 0, 1), (9, .iload_n 3, 1), (10, .invokevirtual 185, 3), (13, .i2l, 1), (14, .ladd, 1), (15, .lstore_n 1, 1), (16, .lload_n 1, 1), (17, .ldc2_w 174, 3), (20, .lmul, 1), (21, .aload_n 0, 1), (22, .iload_n 3, 1), (23, .iconst 1, 1)] := dw_all (l := [133, 97, 64, 31, 20, 0, 174, 105, 42, 29, 182, 0, 185, 133, 97, 64, 31, 20, 0, 174, 105, 42, 29, 4]) (by decide +kernel)
theorem dX3_digest_48 : decode cX3_digest 48 = .ok (.i2l, 1) := wtX3_digest_48.1
theorem dX3_digest_49 : decode cX3_digest 49 = .ok (.ladd, 1) := wtX3_digest_48.2.1
theorem dX3_digest_50 : decode cX3_digest 50 = .ok (.lstore_n 1, 1) := wtX3_digest_48.2.2.1
theorem dX3_digest_51 : decode cX3_digest 51 = .ok (.lload_n 1, 1) := wtX3_digest_48.2.2.2.1
theorem dX3_digest_52 : decode cX3_digest 52 = .ok (.ldc2_w 174, 3) := wtX3_digest_48.2.2.2.2.1
theorem dX3_digest_55 : decode cX3_digest 55 = .ok (.lmul, 1) := wtX3_digest_48.2.2.2.2.2.1
theorem dX3_digest_56 : decode cX3_digest 56 = .ok (.aload_n 0, 1) := wtX3_digest_48.2.2.2.2.2.2.1
theorem dX3_digest_57 : decode cX3_digest 57 = .ok (.iload_n 3, 1) := wtX3_digest_48.2.2.2.2.2.2.2.1
theorem dX3_digest_58 : decode cX3_digest 58 = .ok (.invokevirtual 185, 3) := wtX3_digest_48.2.2.2.2.2.2.2.2.1
theorem dX3_digest_61 : decode cX3_digest 61 = .ok (.i2l, 1) := wtX3_digest_48.2.2.2.2.2.2.2.2.2.1
theorem dX3_digest_62 : decode cX3_digest 62 = .ok (.ladd, 1) := wtX3_digest_48.2.2.2.2.2.2.2.2.2.2.1
theorem dX3_digest_63 : decode cX3_digest 63 = .ok (.lstore_n 1, 1) := wtX3_digest_48.2.2.2.2.2.2.2.2.2.2.2.1
theorem dX3_digest_64 : decode cX3_digest 64 = .ok (.lload_n 1, 1) := wtX3_digest_48.2.2.2.2.2.2.2.2.2.2.2.2.1
theorem dX3_digest_65 : decode cX3_digest 65 = .ok (.ldc2_w 174, 3) := wtX3_digest_48.2.2.2.2.2.2.2.2.2.2.2.2.2.1
theorem dX3_digest_68 : decode cX3_digest 68 = .ok (.lmul, 1) := wtX3_digest_48.2.2.2.2.2.2.2.2.2.2.2.2.2.2.1
theorem dX3_digest_69 : decode cX3_digest 69 = .ok (.aload_n 0, 1) := wtX3_digest_48.2.2.2.2.2.2.2.2.2.2.2.2.2.2.2.1
theorem dX3_digest_70 : decode cX3_digest 70 = .ok (.iload_n 3, 1) := wtX3_digest_48.2.2.2.2.2.2.2.2.2.2.2.2.2.2.2.2.1
theorem dX3_digest_71 : decode cX3_digest 71 = .ok (.iconst 1, 1) := wtX3_digest_48.2.2.2.2.2.2.2.2.2.2.2.2.2.2.2.2.2.1
theorem wtX3_digest_72 : dwcj cX3_digest 72 [(0, .invokevirtual 188, 3), (3, .i2l, 1), (4, .ladd, 1), (5, .lstore_n 1, 1), (6, .iinc 3 1, 3), (9, .goto (-75), 3), (12, .iconst 0, 1), (13, .istore_n 3, 1), (14, .iload_n 3, 1), (15, .iconst 1, 1), (16, .iadd, 1), (17, .bipush 6, 2), (19, .if_icmp .ge 25, 3), (22, .lload_n 1, 1), (23, .ldc2_w 174, 3)] := dw_all (l := [182, 0, 188, 133, 97, 64, 132, 3, 1, 167, 255, 181, 3, 62, 29, 4, 96, 16, 6, 162, 0, 25, 31, 20, 0, 174]) (by decide +kernel)
theorem dX3_digest_72 : decode cX3_digest 72 = .ok (.invokevirtual 188, 3) := wtX3_digest_72.1
theorem dX3_digest_75 : decode cX3_digest 75 = .ok (.i2l, 1) := wtX3_digest_72.2.1
theorem dX3_digest_76 : decode cX3_digest 76 = .ok (.ladd, 1) := wtX3_digest_72.2.2.1
theorem dX3_digest_77 : decode cX3_digest 77 = .ok (.lstore_n 1, 1) := wtX3_digest_72.2.2.2.1
theorem dX3_digest_78 : decode cX3_digest 78 = .ok (.iinc 3 1, 3) := wtX3_digest_72.2.2.2.2.1
theorem dX3_digest_81 : decode cX3_digest 81 = .ok (.goto (-75), 3) := wtX3_digest_72.2.2.2.2.2.1
theorem dX3_digest_84 : decode cX3_digest 84 = .ok (.iconst 0, 1) := wtX3_digest_72.2.2.2.2.2.2.1
theorem dX3_digest_85 : decode cX3_digest 85 = .ok (.istore_n 3, 1) := wtX3_digest_72.2.2.2.2.2.2.2.1
theorem dX3_digest_86 : decode cX3_digest 86 = .ok (.iload_n 3, 1) := wtX3_digest_72.2.2.2.2.2.2.2.2.1
theorem dX3_digest_87 : decode cX3_digest 87 = .ok (.iconst 1, 1) := wtX3_digest_72.2.2.2.2.2.2.2.2.2.1
theorem dX3_digest_88 : decode cX3_digest 88 = .ok (.iadd, 1) := wtX3_digest_72.2.2.2.2.2.2.2.2.2.2.1
theorem dX3_digest_89 : decode cX3_digest 89 = .ok (.bipush 6, 2) := wtX3_digest_72.2.2.2.2.2.2.2.2.2.2.2.1
theorem dX3_digest_91 : decode cX3_digest 91 = .ok (.if_icmp .ge 25, 3) := wtX3_digest_72.2.2.2.2.2.2.2.2.2.2.2.2.1
theorem dX3_digest_94 : decode cX3_digest 94 = .ok (.lload_n 1, 1) := wtX3_digest_72.2.2.2.2.2.2.2.2.2.2.2.2.2.1
theorem dX3_digest_95 : decode cX3_digest 95 = .ok (.ldc2_w 174, 3) := wtX3_digest_72.2.2.2.2.2.2.2.2.2.2.2.2.2.2.1
theorem wtX3_digest_98 : dwcj cX3_digest 98 [(0, .lmul, 1), (1, .aload_n 0, 1), (2, .iload_n 3, 1), (3, .iload_n 3, 1), (4, .iconst 1, 1), (5, .iadd, 1), (6, .invokevirtual 192, 3), (9, .i2l, 1), (10, .ladd, 1), (11, .lstore_n 1, 1), (12, .iinc 3 1, 3), (15, .goto (-27), 3), (18, .iconst 0, 1), (19, .istore_n 3, 1), (20, .iload_n 3, 1), (21, .iconst 4, 1), (22, .if_icmp .gt 22, 3)] := dw_all (l := [105, 42, 29, 29, 4, 96, 182, 0, 192, 133, 97, 64, 132, 3, 1, 167, 255, 229, 3, 62, 29, 7, 163, 0, 22]) (by decide +kernel)
theorem dX3_digest_98 : decode cX3_digest 98 = .ok (.lmul, 1) := wtX3_digest_98.1
theorem dX3_digest_99 : decode cX3_digest 99 = .ok (.aload_n 0, 1) := wtX3_digest_98.2.1
theorem dX3_digest_100 : decode cX3_digest 100 = .ok (.iload_n 3, 1) := wtX3_digest_98.2.2.1
theorem dX3_digest_101 : decode cX3_digest 101 = .ok (.iload_n 3, 1) := wtX3_digest_98.2.2.2.1
theorem dX3_digest_102 : decode cX3_digest 102 = .ok (.iconst 1, 1) := wtX3_digest_98.2.2.2.2.1
theorem dX3_digest_103 : decode cX3_digest 103 = .ok (.iadd, 1) := wtX3_digest_98.2.2.2.2.2.1
theorem dX3_digest_104 : decode cX3_digest 104 = .ok (.invokevirtual 192, 3) := wtX3_digest_98.2.2.2.2.2.2.1
theorem dX3_digest_107 : decode cX3_digest 107 = .ok (.i2l, 1) := wtX3_digest_98.2.2.2.2.2.2.2.1
theorem dX3_digest_108 : decode cX3_digest 108 = .ok (.ladd, 1) := wtX3_digest_98.2.2.2.2.2.2.2.2.1
theorem dX3_digest_109 : decode cX3_digest 109 = .ok (.lstore_n 1, 1) := wtX3_digest_98.2.2.2.2.2.2.2.2.2.1
theorem dX3_digest_110 : decode cX3_digest 110 = .ok (.iinc 3 1, 3) := wtX3_digest_98.2.2.2.2.2.2.2.2.2.2.1
theorem dX3_digest_113 : decode cX3_digest 113 = .ok (.goto (-27), 3) := wtX3_digest_98.2.2.2.2.2.2.2.2.2.2.2.1
theorem dX3_digest_116 : decode cX3_digest 116 = .ok (.iconst 0, 1) := wtX3_digest_98.2.2.2.2.2.2.2.2.2.2.2.2.1
theorem dX3_digest_117 : decode cX3_digest 117 = .ok (.istore_n 3, 1) := wtX3_digest_98.2.2.2.2.2.2.2.2.2.2.2.2.2.1
theorem dX3_digest_118 : decode cX3_digest 118 = .ok (.iload_n 3, 1) := wtX3_digest_98.2.2.2.2.2.2.2.2.2.2.2.2.2.2.1
theorem dX3_digest_119 : decode cX3_digest 119 = .ok (.iconst 4, 1) := wtX3_digest_98.2.2.2.2.2.2.2.2.2.2.2.2.2.2.2.1
theorem dX3_digest_120 : decode cX3_digest 120 = .ok (.if_icmp .gt 22, 3) := wtX3_digest_98.2.2.2.2.2.2.2.2.2.2.2.2.2.2.2.2.1
theorem wtX3_digest_123 : dwcj cX3_digest 123 [(0, .lload_n 1, 1), (1, .ldc2_w 174, 3), (4, .lmul, 1), (5, .aload_n 0, 1), (6, .iload_n 3, 1), (7, .invokevirtual 196, 3), (10, .i2l, 1), (11, .ladd, 1), (12, .lstore_n 1, 1), (13, .iinc 3 1, 3), (16, .goto (-21), 3), (19, .lload_n 1, 1), (20, .ldc2_w 174, 3), (23, .lmul, 1)] := dw_all (l := [31, 20, 0, 174, 105, 42, 29, 182, 0, 196, 133, 97, 64, 132, 3, 1, 167, 255, 235, 31, 20, 0, 174, 105]) (by decide +kernel)
theorem dX3_digest_123 : decode cX3_digest 123 = .ok (.lload_n 1, 1) := wtX3_digest_123.1
theorem dX3_digest_124 : decode cX3_digest 124 = .ok (.ldc2_w 174, 3) := wtX3_digest_123.2.1
theorem dX3_digest_127 : decode cX3_digest 127 = .ok (.lmul, 1) := wtX3_digest_123.2.2.1
theorem dX3_digest_128 : decode cX3_digest 128 = .ok (.aload_n 0, 1) := wtX3_digest_123.2.2.2.1
theorem dX3_digest_129 : decode cX3_digest 129 = .ok (.iload_n 3, 1) := wtX3_digest_123.2.2.2.2.1
theorem dX3_digest_130 : decode cX3_digest 130 = .ok (.invokevirtual 196, 3) := wtX3_digest_123.2.2.2.2.2.1
theorem dX3_digest_133 : decode cX3_digest 133 = .ok (.i2l, 1) := wtX3_digest_123.2.2.2.2.2.2.1
theorem dX3_digest_134 : decode cX3_digest 134 = .ok (.ladd, 1) := wtX3_digest_123.2.2.2.2.2.2.2.1
theorem dX3_digest_135 : decode cX3_digest 135 = .ok (.lstore_n 1, 1) := wtX3_digest_123.2.2.2.2.2.2.2.2.1
theorem dX3_digest_136 : decode cX3_digest 136 = .ok (.iinc 3 1, 3) := wtX3_digest_123.2.2.2.2.2.2.2.2.2.1
theorem dX3_digest_139 : decode cX3_digest 139 = .ok (.goto (-21), 3) := wtX3_digest_123.2.2.2.2.2.2.2.2.2.2.1
theorem dX3_digest_142 : decode cX3_digest 142 = .ok (.lload_n 1, 1) := wtX3_digest_123.2.2.2.2.2.2.2.2.2.2.2.1
theorem dX3_digest_143 : decode cX3_digest 143 = .ok (.ldc2_w 174, 3) := wtX3_digest_123.2.2.2.2.2.2.2.2.2.2.2.2.1
theorem dX3_digest_146 : decode cX3_digest 146 = .ok (.lmul, 1) := wtX3_digest_123.2.2.2.2.2.2.2.2.2.2.2.2.2.1
theorem wtX3_digest_147 : dwcj cX3_digest 147 [(0, .aload_n 0, 1), (1, .invokevirtual 199, 3), (4, .ifCond .eq 7, 3), (7, .iconst 1, 1), (8, .goto 4, 3), (11, .iconst 0, 1), (12, .i2l, 1), (13, .ladd, 1), (14, .lreturn, 1)] := dw_all (l := [42, 182, 0, 199, 153, 0, 7, 4, 167, 0, 4, 3, 133, 97, 173]) (by decide +kernel)
theorem dX3_digest_147 : decode cX3_digest 147 = .ok (.aload_n 0, 1) := wtX3_digest_147.1
theorem dX3_digest_148 : decode cX3_digest 148 = .ok (.invokevirtual 199, 3) := wtX3_digest_147.2.1
theorem dX3_digest_151 : decode cX3_digest 151 = .ok (.ifCond .eq 7, 3) := wtX3_digest_147.2.2.1
theorem dX3_digest_154 : decode cX3_digest 154 = .ok (.iconst 1, 1) := wtX3_digest_147.2.2.2.1
theorem dX3_digest_155 : decode cX3_digest 155 = .ok (.goto 4, 3) := wtX3_digest_147.2.2.2.2.1
theorem dX3_digest_158 : decode cX3_digest 158 = .ok (.iconst 0, 1) := wtX3_digest_147.2.2.2.2.2.1
theorem dX3_digest_159 : decode cX3_digest 159 = .ok (.i2l, 1) := wtX3_digest_147.2.2.2.2.2.2.1
theorem dX3_digest_160 : decode cX3_digest 160 = .ok (.ladd, 1) := wtX3_digest_147.2.2.2.2.2.2.2.1
theorem dX3_digest_161 : decode cX3_digest 161 = .ok (.lreturn, 1) := wtX3_digest_147.2.2.2.2.2.2.2.2.1
theorem wtX3_checkCell_0 : dwcj cX3_checkCell 0 [(0, .iload_n 1, 1), (1, .ifCond .lt 12, 3), (4, .iload_n 1, 1), (5, .aload_n 0, 1), (6, .getfield 9, 3), (9, .arraylength, 1), (10, .if_icmp .lt 13, 3), (13, .new 203, 3), (16, .dup, 1), (17, .ldc 205, 2), (19, .invokespecial 207, 3), (22, .athrow, 1), (23, .return_, 1)] := dw_all (l := [27, 155, 0, 12, 27, 42, 180, 0, 9, 190, 161, 0, 13, 187, 0, 203, 89, 18, 205, 183, 0, 207, 191, 177]) (by decide +kernel)
theorem dX3_checkCell_0 : decode cX3_checkCell 0 = .ok (.iload_n 1, 1) := wtX3_checkCell_0.1
theorem dX3_checkCell_1 : decode cX3_checkCell 1 = .ok (.ifCond .lt 12, 3) := wtX3_checkCell_0.2.1
theorem dX3_checkCell_4 : decode cX3_checkCell 4 = .ok (.iload_n 1, 1) := wtX3_checkCell_0.2.2.1
theorem dX3_checkCell_5 : decode cX3_checkCell 5 = .ok (.aload_n 0, 1) := wtX3_checkCell_0.2.2.2.1
theorem dX3_checkCell_6 : decode cX3_checkCell 6 = .ok (.getfield 9, 3) := wtX3_checkCell_0.2.2.2.2.1
theorem dX3_checkCell_9 : decode cX3_checkCell 9 = .ok (.arraylength, 1) := wtX3_checkCell_0.2.2.2.2.2.1
theorem dX3_checkCell_10 : decode cX3_checkCell 10 = .ok (.if_icmp .lt 13, 3) := wtX3_checkCell_0.2.2.2.2.2.2.1
theorem dX3_checkCell_13 : decode cX3_checkCell 13 = .ok (.new 203, 3) := wtX3_checkCell_0.2.2.2.2.2.2.2.1
theorem dX3_checkCell_16 : decode cX3_checkCell 16 = .ok (.dup, 1) := wtX3_checkCell_0.2.2.2.2.2.2.2.2.1
theorem dX3_checkCell_17 : decode cX3_checkCell 17 = .ok (.ldc 205, 2) := wtX3_checkCell_0.2.2.2.2.2.2.2.2.2.1
theorem dX3_checkCell_19 : decode cX3_checkCell 19 = .ok (.invokespecial 207, 3) := wtX3_checkCell_0.2.2.2.2.2.2.2.2.2.2.1
theorem dX3_checkCell_22 : decode cX3_checkCell 22 = .ok (.athrow, 1) := wtX3_checkCell_0.2.2.2.2.2.2.2.2.2.2.2.1
theorem dX3_checkCell_23 : decode cX3_checkCell 23 = .ok (.return_, 1) := wtX3_checkCell_0.2.2.2.2.2.2.2.2.2.2.2.2.1
theorem wtX3_checkRange_0 : dwcj cX3_checkRange 0 [(0, .iload_n 0, 1), (1, .iload_n 1, 1), (2, .if_icmp .lt 8, 3), (5, .iload_n 0, 1), (6, .iload_n 2, 1), (7, .if_icmp .le 13, 3), (10, .new 210, 3), (13, .dup, 1), (14, .ldc 212, 2), (16, .invokespecial 214, 3), (19, .athrow, 1), (20, .return_, 1)] := dw_all (l := [26, 27, 161, 0, 8, 26, 28, 164, 0, 13, 187, 0, 210, 89, 18, 212, 183, 0, 214, 191, 177]) (by decide +kernel)
theorem dX3_checkRange_0 : decode cX3_checkRange 0 = .ok (.iload_n 0, 1) := wtX3_checkRange_0.1
theorem dX3_checkRange_1 : decode cX3_checkRange 1 = .ok (.iload_n 1, 1) := wtX3_checkRange_0.2.1
theorem dX3_checkRange_2 : decode cX3_checkRange 2 = .ok (.if_icmp .lt 8, 3) := wtX3_checkRange_0.2.2.1
theorem dX3_checkRange_5 : decode cX3_checkRange 5 = .ok (.iload_n 0, 1) := wtX3_checkRange_0.2.2.2.1
theorem dX3_checkRange_6 : decode cX3_checkRange 6 = .ok (.iload_n 2, 1) := wtX3_checkRange_0.2.2.2.2.1
theorem dX3_checkRange_7 : decode cX3_checkRange 7 = .ok (.if_icmp .le 13, 3) := wtX3_checkRange_0.2.2.2.2.2.1
theorem dX3_checkRange_10 : decode cX3_checkRange 10 = .ok (.new 210, 3) := wtX3_checkRange_0.2.2.2.2.2.2.1
theorem dX3_checkRange_13 : decode cX3_checkRange 13 = .ok (.dup, 1) := wtX3_checkRange_0.2.2.2.2.2.2.2.1
theorem dX3_checkRange_14 : decode cX3_checkRange 14 = .ok (.ldc 212, 2) := wtX3_checkRange_0.2.2.2.2.2.2.2.2.1
theorem dX3_checkRange_16 : decode cX3_checkRange 16 = .ok (.invokespecial 214, 3) := wtX3_checkRange_0.2.2.2.2.2.2.2.2.2.1
theorem dX3_checkRange_19 : decode cX3_checkRange 19 = .ok (.athrow, 1) := wtX3_checkRange_0.2.2.2.2.2.2.2.2.2.2.1
theorem dX3_checkRange_20 : decode cX3_checkRange 20 = .ok (.return_, 1) := wtX3_checkRange_0.2.2.2.2.2.2.2.2.2.2.2.1
theorem wtX3_polyIn_0 : dwcj cX3_polyIn 0 [(0, .aload_n 0, 1), (1, .iload_n 1, 1), (2, .invokevirtual 23, 3), (5, .aload_n 0, 1), (6, .getfield 9, 3), (9, .iload_n 1, 1), (10, .laload, 1), (11, .lreturn, 1)] := dw_all (l := [42, 27, 182, 0, 23, 42, 180, 0, 9, 27, 47, 173]) (by decide +kernel)
theorem dX3_polyIn_0 : decode cX3_polyIn 0 = .ok (.aload_n 0, 1) := wtX3_polyIn_0.1
theorem dX3_polyIn_1 : decode cX3_polyIn 1 = .ok (.iload_n 1, 1) := wtX3_polyIn_0.2.1
theorem dX3_polyIn_2 : decode cX3_polyIn 2 = .ok (.invokevirtual 23, 3) := wtX3_polyIn_0.2.2.1
theorem dX3_polyIn_5 : decode cX3_polyIn 5 = .ok (.aload_n 0, 1) := wtX3_polyIn_0.2.2.2.1
theorem dX3_polyIn_6 : decode cX3_polyIn 6 = .ok (.getfield 9, 3) := wtX3_polyIn_0.2.2.2.2.1
theorem dX3_polyIn_9 : decode cX3_polyIn 9 = .ok (.iload_n 1, 1) := wtX3_polyIn_0.2.2.2.2.2.1
theorem dX3_polyIn_10 : decode cX3_polyIn 10 = .ok (.laload, 1) := wtX3_polyIn_0.2.2.2.2.2.2.1
theorem dX3_polyIn_11 : decode cX3_polyIn 11 = .ok (.lreturn, 1) := wtX3_polyIn_0.2.2.2.2.2.2.2.1
theorem wtX3_hasDegreeIn_0 : dwcj cX3_hasDegreeIn 0 [(0, .lload_n 0, 1), (1, .invokestatic 69, 3), (4, .istore 4, 2), (6, .iload 4, 2), (8, .iload_n 2, 1), (9, .if_icmp .lt 13, 3), (12, .iload 4, 2), (14, .iload_n 3, 1), (15, .if_icmp .gt 7, 3), (18, .iconst 1, 1), (19, .goto 4, 3), (22, .iconst 0, 1), (23, .ireturn, 1)] := dw_all (l := [30, 184, 0, 69, 54, 4, 21, 4, 28, 161, 0, 13, 21, 4, 29, 163, 0, 7, 4, 167, 0, 4, 3, 172]) (by decide +kernel)
theorem dX3_hasDegreeIn_0 : decode cX3_hasDegreeIn 0 = .ok (.lload_n 0, 1) := wtX3_hasDegreeIn_0.1
theorem dX3_hasDegreeIn_1 : decode cX3_hasDegreeIn 1 = .ok (.invokestatic 69, 3) := wtX3_hasDegreeIn_0.2.1
theorem dX3_hasDegreeIn_4 : decode cX3_hasDegreeIn 4 = .ok (.istore 4, 2) := wtX3_hasDegreeIn_0.2.2.1
theorem dX3_hasDegreeIn_6 : decode cX3_hasDegreeIn 6 = .ok (.iload 4, 2) := wtX3_hasDegreeIn_0.2.2.2.1
theorem dX3_hasDegreeIn_8 : decode cX3_hasDegreeIn 8 = .ok (.iload_n 2, 1) := wtX3_hasDegreeIn_0.2.2.2.2.1
theorem dX3_hasDegreeIn_9 : decode cX3_hasDegreeIn 9 = .ok (.if_icmp .lt 13, 3) := wtX3_hasDegreeIn_0.2.2.2.2.2.1
theorem dX3_hasDegreeIn_12 : decode cX3_hasDegreeIn 12 = .ok (.iload 4, 2) := wtX3_hasDegreeIn_0.2.2.2.2.2.2.1
theorem dX3_hasDegreeIn_14 : decode cX3_hasDegreeIn 14 = .ok (.iload_n 3, 1) := wtX3_hasDegreeIn_0.2.2.2.2.2.2.2.1
theorem dX3_hasDegreeIn_15 : decode cX3_hasDegreeIn 15 = .ok (.if_icmp .gt 7, 3) := wtX3_hasDegreeIn_0.2.2.2.2.2.2.2.2.1
theorem dX3_hasDegreeIn_18 : decode cX3_hasDegreeIn 18 = .ok (.iconst 1, 1) := wtX3_hasDegreeIn_0.2.2.2.2.2.2.2.2.2.1
theorem dX3_hasDegreeIn_19 : decode cX3_hasDegreeIn 19 = .ok (.goto 4, 3) := wtX3_hasDegreeIn_0.2.2.2.2.2.2.2.2.2.2.1
theorem dX3_hasDegreeIn_22 : decode cX3_hasDegreeIn 22 = .ok (.iconst 0, 1) := wtX3_hasDegreeIn_0.2.2.2.2.2.2.2.2.2.2.2.1
theorem dX3_hasDegreeIn_23 : decode cX3_hasDegreeIn 23 = .ok (.ireturn, 1) := wtX3_hasDegreeIn_0.2.2.2.2.2.2.2.2.2.2.2.2.1
theorem wtX3_fill_0 : dwcj cX3_fill 0 [(0, .aload_n 0, 1), (1, .iload_n 1, 1), (2, .invokevirtual 43, 3), (5, .lload_n 2, 1), (6, .lcmp, 1), (7, .ifCond .eq 7, 3), (10, .iconst 1, 1), (11, .goto 4, 3), (14, .iconst 0, 1), (15, .istore 4, 2), (17, .aload_n 0, 1), (18, .getfield 9, 3), (21, .iload_n 1, 1), (22, .lload_n 2, 1), (23, .lastore, 1)] := dw_all (l := [42, 27, 182, 0, 43, 32, 148, 153, 0, 7, 4, 167, 0, 4, 3, 54, 4, 42, 180, 0, 9, 27, 32, 80]) (by decide +kernel)
theorem dX3_fill_0 : decode cX3_fill 0 = .ok (.aload_n 0, 1) := wtX3_fill_0.1
theorem dX3_fill_1 : decode cX3_fill 1 = .ok (.iload_n 1, 1) := wtX3_fill_0.2.1
theorem dX3_fill_2 : decode cX3_fill 2 = .ok (.invokevirtual 43, 3) := wtX3_fill_0.2.2.1
theorem dX3_fill_5 : decode cX3_fill 5 = .ok (.lload_n 2, 1) := wtX3_fill_0.2.2.2.1
theorem dX3_fill_6 : decode cX3_fill 6 = .ok (.lcmp, 1) := wtX3_fill_0.2.2.2.2.1
theorem dX3_fill_7 : decode cX3_fill 7 = .ok (.ifCond .eq 7, 3) := wtX3_fill_0.2.2.2.2.2.1
theorem dX3_fill_10 : decode cX3_fill 10 = .ok (.iconst 1, 1) := wtX3_fill_0.2.2.2.2.2.2.1
theorem dX3_fill_11 : decode cX3_fill 11 = .ok (.goto 4, 3) := wtX3_fill_0.2.2.2.2.2.2.2.1
theorem dX3_fill_14 : decode cX3_fill 14 = .ok (.iconst 0, 1) := wtX3_fill_0.2.2.2.2.2.2.2.2.1
theorem dX3_fill_15 : decode cX3_fill 15 = .ok (.istore 4, 2) := wtX3_fill_0.2.2.2.2.2.2.2.2.2.1
theorem dX3_fill_17 : decode cX3_fill 17 = .ok (.aload_n 0, 1) := wtX3_fill_0.2.2.2.2.2.2.2.2.2.2.1
theorem dX3_fill_18 : decode cX3_fill 18 = .ok (.getfield 9, 3) := wtX3_fill_0.2.2.2.2.2.2.2.2.2.2.2.1
theorem dX3_fill_21 : decode cX3_fill 21 = .ok (.iload_n 1, 1) := wtX3_fill_0.2.2.2.2.2.2.2.2.2.2.2.2.1
theorem dX3_fill_22 : decode cX3_fill 22 = .ok (.lload_n 2, 1) := wtX3_fill_0.2.2.2.2.2.2.2.2.2.2.2.2.2.1
theorem dX3_fill_23 : decode cX3_fill 23 = .ok (.lastore, 1) := wtX3_fill_0.2.2.2.2.2.2.2.2.2.2.2.2.2.2.1
theorem wtX3_fill_24 : dwcj cX3_fill 24 [(0, .aload_n 0, 1), (1, .dup, 1), (2, .getfield 13, 3), (5, .iconst 1, 1), (6, .iadd, 1), (7, .putfield 13, 3), (10, .iload 4, 2), (12, .ifCond .eq 7, 3), (15, .iconst 1, 1), (16, .goto 4, 3), (19, .iconst 0, 1), (20, .ireturn, 1)] := dw_all (l := [42, 89, 180, 0, 13, 4, 96, 181, 0, 13, 21, 4, 153, 0, 7, 4, 167, 0, 4, 3, 172]) (by decide +kernel)
theorem dX3_fill_24 : decode cX3_fill 24 = .ok (.aload_n 0, 1) := wtX3_fill_24.1
theorem dX3_fill_25 : decode cX3_fill 25 = .ok (.dup, 1) := wtX3_fill_24.2.1
theorem dX3_fill_26 : decode cX3_fill 26 = .ok (.getfield 13, 3) := wtX3_fill_24.2.2.1
theorem dX3_fill_29 : decode cX3_fill 29 = .ok (.iconst 1, 1) := wtX3_fill_24.2.2.2.1
theorem dX3_fill_30 : decode cX3_fill 30 = .ok (.iadd, 1) := wtX3_fill_24.2.2.2.2.1
theorem dX3_fill_31 : decode cX3_fill 31 = .ok (.putfield 13, 3) := wtX3_fill_24.2.2.2.2.2.1
theorem dX3_fill_34 : decode cX3_fill 34 = .ok (.iload 4, 2) := wtX3_fill_24.2.2.2.2.2.2.1
theorem dX3_fill_36 : decode cX3_fill 36 = .ok (.ifCond .eq 7, 3) := wtX3_fill_24.2.2.2.2.2.2.2.1
theorem dX3_fill_39 : decode cX3_fill 39 = .ok (.iconst 1, 1) := wtX3_fill_24.2.2.2.2.2.2.2.2.1
theorem dX3_fill_40 : decode cX3_fill 40 = .ok (.goto 4, 3) := wtX3_fill_24.2.2.2.2.2.2.2.2.2.1
theorem dX3_fill_43 : decode cX3_fill 43 = .ok (.iconst 0, 1) := wtX3_fill_24.2.2.2.2.2.2.2.2.2.2.1
theorem dX3_fill_44 : decode cX3_fill 44 = .ok (.ireturn, 1) := wtX3_fill_24.2.2.2.2.2.2.2.2.2.2.2.1
theorem wtX3_fillProduct_0 : dwcj cX3_fillProduct 0 [(0, .lload_n 2, 1), (1, .lconst 0, 1), (2, .lcmp, 1), (3, .ifCond .eq 30, 3), (6, .lload 4, 2), (8, .lconst 0, 1), (9, .lcmp, 1), (10, .ifCond .eq 23, 3), (13, .lload_n 2, 1), (14, .invokestatic 69, 3), (17, .lload 4, 2), (19, .invokestatic 69, 3), (22, .iadd, 1), (23, .bipush 32, 2)] := dw_all (l := [32, 9, 148, 153, 0, 30, 22, 4, 9, 148, 153, 0, 23, 32, 184, 0, 69, 22, 4, 184, 0, 69, 96, 16, 32]) (by decide +kernel)
theorem dX3_fillProduct_0 : decode cX3_fillProduct 0 = .ok (.lload_n 2, 1) := wtX3_fillProduct_0.1
theorem dX3_fillProduct_1 : decode cX3_fillProduct 1 = .ok (.lconst 0, 1) := wtX3_fillProduct_0.2.1
theorem dX3_fillProduct_2 : decode cX3_fillProduct 2 = .ok (.lcmp, 1) := wtX3_fillProduct_0.2.2.1
theorem dX3_fillProduct_3 : decode cX3_fillProduct 3 = .ok (.ifCond .eq 30, 3) := wtX3_fillProduct_0.2.2.2.1
theorem dX3_fillProduct_6 : decode cX3_fillProduct 6 = .ok (.lload 4, 2) := wtX3_fillProduct_0.2.2.2.2.1
theorem dX3_fillProduct_8 : decode cX3_fillProduct 8 = .ok (.lconst 0, 1) := wtX3_fillProduct_0.2.2.2.2.2.1
theorem dX3_fillProduct_9 : decode cX3_fillProduct 9 = .ok (.lcmp, 1) := wtX3_fillProduct_0.2.2.2.2.2.2.1
theorem dX3_fillProduct_10 : decode cX3_fillProduct 10 = .ok (.ifCond .eq 23, 3) := wtX3_fillProduct_0.2.2.2.2.2.2.2.1
theorem dX3_fillProduct_13 : decode cX3_fillProduct 13 = .ok (.lload_n 2, 1) := wtX3_fillProduct_0.2.2.2.2.2.2.2.2.1
theorem dX3_fillProduct_14 : decode cX3_fillProduct 14 = .ok (.invokestatic 69, 3) := wtX3_fillProduct_0.2.2.2.2.2.2.2.2.2.1
theorem dX3_fillProduct_17 : decode cX3_fillProduct 17 = .ok (.lload 4, 2) := wtX3_fillProduct_0.2.2.2.2.2.2.2.2.2.2.1
theorem dX3_fillProduct_19 : decode cX3_fillProduct 19 = .ok (.invokestatic 69, 3) := wtX3_fillProduct_0.2.2.2.2.2.2.2.2.2.2.2.1
theorem dX3_fillProduct_22 : decode cX3_fillProduct 22 = .ok (.iadd, 1) := wtX3_fillProduct_0.2.2.2.2.2.2.2.2.2.2.2.2.1
theorem dX3_fillProduct_23 : decode cX3_fillProduct 23 = .ok (.bipush 32, 2) := wtX3_fillProduct_0.2.2.2.2.2.2.2.2.2.2.2.2.2.1
theorem wtX3_fillProduct_25 : dwcj cX3_fillProduct 25 [(0, .if_icmp .le 8, 3), (3, .aload_n 0, 1), (4, .invokevirtual 73, 3), (7, .ireturn, 1), (8, .aload_n 0, 1), (9, .iload_n 1, 1), (10, .lload_n 2, 1), (11, .lload 4, 2), (13, .invokestatic 169, 3), (16, .invokevirtual 29, 3), (19, .ireturn, 1)] := dw_all (l := [164, 0, 8, 42, 182, 0, 73, 172, 42, 27, 32, 22, 4, 184, 0, 169, 182, 0, 29, 172]) (by decide +kernel)
theorem dX3_fillProduct_25 : decode cX3_fillProduct 25 = .ok (.if_icmp .le 8, 3) := wtX3_fillProduct_25.1
theorem dX3_fillProduct_28 : decode cX3_fillProduct 28 = .ok (.aload_n 0, 1) := wtX3_fillProduct_25.2.1
theorem dX3_fillProduct_29 : decode cX3_fillProduct 29 = .ok (.invokevirtual 73, 3) := wtX3_fillProduct_25.2.2.1
theorem dX3_fillProduct_32 : decode cX3_fillProduct 32 = .ok (.ireturn, 1) := wtX3_fillProduct_25.2.2.2.1
theorem dX3_fillProduct_33 : decode cX3_fillProduct 33 = .ok (.aload_n 0, 1) := wtX3_fillProduct_25.2.2.2.2.1
theorem dX3_fillProduct_34 : decode cX3_fillProduct 34 = .ok (.iload_n 1, 1) := wtX3_fillProduct_25.2.2.2.2.2.1
theorem dX3_fillProduct_35 : decode cX3_fillProduct 35 = .ok (.lload_n 2, 1) := wtX3_fillProduct_25.2.2.2.2.2.2.1
theorem dX3_fillProduct_36 : decode cX3_fillProduct 36 = .ok (.lload 4, 2) := wtX3_fillProduct_25.2.2.2.2.2.2.2.1
theorem dX3_fillProduct_38 : decode cX3_fillProduct 38 = .ok (.invokestatic 169, 3) := wtX3_fillProduct_25.2.2.2.2.2.2.2.2.1
theorem dX3_fillProduct_41 : decode cX3_fillProduct 41 = .ok (.invokevirtual 29, 3) := wtX3_fillProduct_25.2.2.2.2.2.2.2.2.2.1
theorem dX3_fillProduct_44 : decode cX3_fillProduct 44 = .ok (.ireturn, 1) := wtX3_fillProduct_25.2.2.2.2.2.2.2.2.2.2.1
theorem wtX3_refuse_0 : dwcj cX3_refuse 0 [(0, .aload_n 0, 1), (1, .dup, 1), (2, .getfield 17, 3), (5, .iconst 1, 1), (6, .iadd, 1), (7, .putfield 17, 3), (10, .bipush (-9), 2), (12, .ireturn, 1)] := dw_all (l := [42, 89, 180, 0, 17, 4, 96, 181, 0, 17, 16, 247, 172]) (by decide +kernel)
theorem dX3_refuse_0 : decode cX3_refuse 0 = .ok (.aload_n 0, 1) := wtX3_refuse_0.1
theorem dX3_refuse_1 : decode cX3_refuse 1 = .ok (.dup, 1) := wtX3_refuse_0.2.1
theorem dX3_refuse_2 : decode cX3_refuse 2 = .ok (.getfield 17, 3) := wtX3_refuse_0.2.2.1
theorem dX3_refuse_5 : decode cX3_refuse 5 = .ok (.iconst 1, 1) := wtX3_refuse_0.2.2.2.1
theorem dX3_refuse_6 : decode cX3_refuse 6 = .ok (.iadd, 1) := wtX3_refuse_0.2.2.2.2.1
theorem dX3_refuse_7 : decode cX3_refuse 7 = .ok (.putfield 17, 3) := wtX3_refuse_0.2.2.2.2.2.1
theorem dX3_refuse_10 : decode cX3_refuse 10 = .ok (.bipush (-9), 2) := wtX3_refuse_0.2.2.2.2.2.2.1
theorem dX3_refuse_12 : decode cX3_refuse 12 = .ok (.ireturn, 1) := wtX3_refuse_0.2.2.2.2.2.2.2.1
theorem wtX3_cellsWithZero_0 : dwcj cX3_cellsWithZero 0 [(0, .iconst 0, 1), (1, .istore_n 1, 1), (2, .iconst 0, 1), (3, .istore_n 2, 1), (4, .iload_n 2, 1), (5, .aload_n 0, 1), (6, .getfield 9, 3), (9, .arraylength, 1), (10, .if_icmp .ge 23, 3), (13, .aload_n 0, 1), (14, .getfield 9, 3), (17, .iload_n 2, 1), (18, .laload, 1), (19, .lconst 0, 1), (20, .lcmp, 1), (21, .ifCond .ne 6, 3)] := dw_all (l := [3, 60, 3, 61, 28, 42, 180, 0, 9, 190, 162, 0, 23, 42, 180, 0, 9, 28, 47, 9, 148, 154, 0, 6]) (by decide +kernel)
theorem dX3_cellsWithZero_0 : decode cX3_cellsWithZero 0 = .ok (.iconst 0, 1) := wtX3_cellsWithZero_0.1
theorem dX3_cellsWithZero_1 : decode cX3_cellsWithZero 1 = .ok (.istore_n 1, 1) := wtX3_cellsWithZero_0.2.1
theorem dX3_cellsWithZero_2 : decode cX3_cellsWithZero 2 = .ok (.iconst 0, 1) := wtX3_cellsWithZero_0.2.2.1
theorem dX3_cellsWithZero_3 : decode cX3_cellsWithZero 3 = .ok (.istore_n 2, 1) := wtX3_cellsWithZero_0.2.2.2.1
theorem dX3_cellsWithZero_4 : decode cX3_cellsWithZero 4 = .ok (.iload_n 2, 1) := wtX3_cellsWithZero_0.2.2.2.2.1
theorem dX3_cellsWithZero_5 : decode cX3_cellsWithZero 5 = .ok (.aload_n 0, 1) := wtX3_cellsWithZero_0.2.2.2.2.2.1
theorem dX3_cellsWithZero_6 : decode cX3_cellsWithZero 6 = .ok (.getfield 9, 3) := wtX3_cellsWithZero_0.2.2.2.2.2.2.1
theorem dX3_cellsWithZero_9 : decode cX3_cellsWithZero 9 = .ok (.arraylength, 1) := wtX3_cellsWithZero_0.2.2.2.2.2.2.2.1
theorem dX3_cellsWithZero_10 : decode cX3_cellsWithZero 10 = .ok (.if_icmp .ge 23, 3) := wtX3_cellsWithZero_0.2.2.2.2.2.2.2.2.1
theorem dX3_cellsWithZero_13 : decode cX3_cellsWithZero 13 = .ok (.aload_n 0, 1) := wtX3_cellsWithZero_0.2.2.2.2.2.2.2.2.2.1
theorem dX3_cellsWithZero_14 : decode cX3_cellsWithZero 14 = .ok (.getfield 9, 3) := wtX3_cellsWithZero_0.2.2.2.2.2.2.2.2.2.2.1
theorem dX3_cellsWithZero_17 : decode cX3_cellsWithZero 17 = .ok (.iload_n 2, 1) := wtX3_cellsWithZero_0.2.2.2.2.2.2.2.2.2.2.2.1
theorem dX3_cellsWithZero_18 : decode cX3_cellsWithZero 18 = .ok (.laload, 1) := wtX3_cellsWithZero_0.2.2.2.2.2.2.2.2.2.2.2.2.1
theorem dX3_cellsWithZero_19 : decode cX3_cellsWithZero 19 = .ok (.lconst 0, 1) := wtX3_cellsWithZero_0.2.2.2.2.2.2.2.2.2.2.2.2.2.1
theorem dX3_cellsWithZero_20 : decode cX3_cellsWithZero 20 = .ok (.lcmp, 1) := wtX3_cellsWithZero_0.2.2.2.2.2.2.2.2.2.2.2.2.2.2.1
theorem dX3_cellsWithZero_21 : decode cX3_cellsWithZero 21 = .ok (.ifCond .ne 6, 3) := wtX3_cellsWithZero_0.2.2.2.2.2.2.2.2.2.2.2.2.2.2.2.1
theorem wtX3_cellsWithZero_24 : dwcj cX3_cellsWithZero 24 [(0, .iinc 1 1, 3), (3, .iinc 2 1, 3), (6, .goto (-26), 3), (9, .iload_n 1, 1), (10, .ireturn, 1)] := dw_all (l := [132, 1, 1, 132, 2, 1, 167, 255, 230, 27, 172]) (by decide +kernel)
theorem dX3_cellsWithZero_24 : decode cX3_cellsWithZero 24 = .ok (.iinc 1 1, 3) := wtX3_cellsWithZero_24.1
theorem dX3_cellsWithZero_27 : decode cX3_cellsWithZero 27 = .ok (.iinc 2 1, 3) := wtX3_cellsWithZero_24.2.1
theorem dX3_cellsWithZero_30 : decode cX3_cellsWithZero 30 = .ok (.goto (-26), 3) := wtX3_cellsWithZero_24.2.2.1
theorem dX3_cellsWithZero_33 : decode cX3_cellsWithZero 33 = .ok (.iload_n 1, 1) := wtX3_cellsWithZero_24.2.2.2.1
theorem dX3_cellsWithZero_34 : decode cX3_cellsWithZero 34 = .ok (.ireturn, 1) := wtX3_cellsWithZero_24.2.2.2.2.1
theorem wtX3_allWeights_0 : dwcj cX3_allWeights 0 [(0, .iconst 0, 1), (1, .istore_n 1, 1), (2, .iconst 0, 1), (3, .istore_n 2, 1), (4, .iload_n 2, 1), (5, .aload_n 0, 1), (6, .getfield 9, 3), (9, .arraylength, 1), (10, .if_icmp .ge 21, 3), (13, .iload_n 1, 1), (14, .aload_n 0, 1), (15, .getfield 9, 3), (18, .iload_n 2, 1), (19, .laload, 1), (20, .invokestatic 125, 3), (23, .iadd, 1)] := dw_all (l := [3, 60, 3, 61, 28, 42, 180, 0, 9, 190, 162, 0, 21, 27, 42, 180, 0, 9, 28, 47, 184, 0, 125, 96]) (by decide +kernel)
theorem dX3_allWeights_0 : decode cX3_allWeights 0 = .ok (.iconst 0, 1) := wtX3_allWeights_0.1
theorem dX3_allWeights_1 : decode cX3_allWeights 1 = .ok (.istore_n 1, 1) := wtX3_allWeights_0.2.1
theorem dX3_allWeights_2 : decode cX3_allWeights 2 = .ok (.iconst 0, 1) := wtX3_allWeights_0.2.2.1
theorem dX3_allWeights_3 : decode cX3_allWeights 3 = .ok (.istore_n 2, 1) := wtX3_allWeights_0.2.2.2.1
theorem dX3_allWeights_4 : decode cX3_allWeights 4 = .ok (.iload_n 2, 1) := wtX3_allWeights_0.2.2.2.2.1
theorem dX3_allWeights_5 : decode cX3_allWeights 5 = .ok (.aload_n 0, 1) := wtX3_allWeights_0.2.2.2.2.2.1
theorem dX3_allWeights_6 : decode cX3_allWeights 6 = .ok (.getfield 9, 3) := wtX3_allWeights_0.2.2.2.2.2.2.1
theorem dX3_allWeights_9 : decode cX3_allWeights 9 = .ok (.arraylength, 1) := wtX3_allWeights_0.2.2.2.2.2.2.2.1
theorem dX3_allWeights_10 : decode cX3_allWeights 10 = .ok (.if_icmp .ge 21, 3) := wtX3_allWeights_0.2.2.2.2.2.2.2.2.1
theorem dX3_allWeights_13 : decode cX3_allWeights 13 = .ok (.iload_n 1, 1) := wtX3_allWeights_0.2.2.2.2.2.2.2.2.2.1
theorem dX3_allWeights_14 : decode cX3_allWeights 14 = .ok (.aload_n 0, 1) := wtX3_allWeights_0.2.2.2.2.2.2.2.2.2.2.1
theorem dX3_allWeights_15 : decode cX3_allWeights 15 = .ok (.getfield 9, 3) := wtX3_allWeights_0.2.2.2.2.2.2.2.2.2.2.2.1
theorem dX3_allWeights_18 : decode cX3_allWeights 18 = .ok (.iload_n 2, 1) := wtX3_allWeights_0.2.2.2.2.2.2.2.2.2.2.2.2.1
theorem dX3_allWeights_19 : decode cX3_allWeights 19 = .ok (.laload, 1) := wtX3_allWeights_0.2.2.2.2.2.2.2.2.2.2.2.2.2.1
theorem dX3_allWeights_20 : decode cX3_allWeights 20 = .ok (.invokestatic 125, 3) := wtX3_allWeights_0.2.2.2.2.2.2.2.2.2.2.2.2.2.2.1
theorem dX3_allWeights_23 : decode cX3_allWeights 23 = .ok (.iadd, 1) := wtX3_allWeights_0.2.2.2.2.2.2.2.2.2.2.2.2.2.2.2.1
theorem wtX3_allWeights_24 : dwcj cX3_allWeights 24 [(0, .istore_n 1, 1), (1, .iinc 2 1, 3), (4, .goto (-24), 3), (7, .iload_n 1, 1), (8, .ireturn, 1)] := dw_all (l := [60, 132, 2, 1, 167, 255, 232, 27, 172]) (by decide +kernel)
theorem dX3_allWeights_24 : decode cX3_allWeights 24 = .ok (.istore_n 1, 1) := wtX3_allWeights_24.1
theorem dX3_allWeights_25 : decode cX3_allWeights 25 = .ok (.iinc 2 1, 3) := wtX3_allWeights_24.2.1
theorem dX3_allWeights_28 : decode cX3_allWeights 28 = .ok (.goto (-24), 3) := wtX3_allWeights_24.2.2.1
theorem dX3_allWeights_31 : decode cX3_allWeights 31 = .ok (.iload_n 1, 1) := wtX3_allWeights_24.2.2.2.1
theorem dX3_allWeights_32 : decode cX3_allWeights 32 = .ok (.ireturn, 1) := wtX3_allWeights_24.2.2.2.2.1
theorem wtX4_init_0 : dwcj cX4_init 0 [(0, .aload_n 0, 1), (1, .invokespecial 1, 3), (4, .return_, 1)] := dw_all (l := [42, 183, 0, 1, 177]) (by decide +kernel)
theorem dX4_init_0 : decode cX4_init 0 = .ok (.aload_n 0, 1) := wtX4_init_0.1
theorem dX4_init_1 : decode cX4_init 1 = .ok (.invokespecial 1, 3) := wtX4_init_0.2.1
theorem dX4_init_4 : decode cX4_init 4 = .ok (.return_, 1) := wtX4_init_0.2.2.1
theorem wtX5_init_0 : dwcj cX5_init 0 [(0, .aload_n 0, 1), (1, .invokespecial 1, 3), (4, .aload_n 0, 1), (5, .bipush 6, 2)] := dw_all (l := [42, 183, 0, 1, 42, 16, 6]) (by decide +kernel)
theorem dX5_init_0 : decode cX5_init 0 = .ok (.aload_n 0, 1) := wtX5_init_0.1
theorem dX5_init_1 : decode cX5_init 1 = .ok (.invokespecial 1, 3) := wtX5_init_0.2.1
theorem dX5_init_4 : decode cX5_init 4 = .ok (.aload_n 0, 1) := wtX5_init_0.2.2.1
theorem dX5_init_5 : decode cX5_init 5 = .ok (.bipush 6, 2) := wtX5_init_0.2.2.2.1
theorem dX5_init_7 : decode cX5_init 7 = .ok (.newarray .long, 2) := by decide +kernel
theorem wtX5_init_9 : dwcj cX5_init 9 [(0, .putfield 7, 3), (3, .return_, 1)] := dw_all (l := [181, 0, 7, 177]) (by decide +kernel)
theorem dX5_init_9 : decode cX5_init 9 = .ok (.putfield 7, 3) := wtX5_init_9.1
theorem dX5_init_12 : decode cX5_init 12 = .ok (.return_, 1) := wtX5_init_9.2.1
theorem wtX5_isIn_0 : dwcj cX5_isIn 0 [(0, .iload_n 0, 1), (1, .iload_n 1, 1), (2, .if_icmp .lt 12, 3), (5, .iload_n 0, 1), (6, .iload_n 2, 1), (7, .if_icmp .gt 7, 3), (10, .iconst 1, 1), (11, .goto 4, 3), (14, .iconst 0, 1), (15, .ireturn, 1)] := dw_all (l := [26, 27, 161, 0, 12, 26, 28, 163, 0, 7, 4, 167, 0, 4, 3, 172]) (by decide +kernel)
theorem dX5_isIn_0 : decode cX5_isIn 0 = .ok (.iload_n 0, 1) := wtX5_isIn_0.1
theorem dX5_isIn_1 : decode cX5_isIn 1 = .ok (.iload_n 1, 1) := wtX5_isIn_0.2.1
theorem dX5_isIn_2 : decode cX5_isIn 2 = .ok (.if_icmp .lt 12, 3) := wtX5_isIn_0.2.2.1
theorem dX5_isIn_5 : decode cX5_isIn 5 = .ok (.iload_n 0, 1) := wtX5_isIn_0.2.2.2.1
theorem dX5_isIn_6 : decode cX5_isIn 6 = .ok (.iload_n 2, 1) := wtX5_isIn_0.2.2.2.2.1
theorem dX5_isIn_7 : decode cX5_isIn 7 = .ok (.if_icmp .gt 7, 3) := wtX5_isIn_0.2.2.2.2.2.1
theorem dX5_isIn_10 : decode cX5_isIn 10 = .ok (.iconst 1, 1) := wtX5_isIn_0.2.2.2.2.2.2.1
theorem dX5_isIn_11 : decode cX5_isIn 11 = .ok (.goto 4, 3) := wtX5_isIn_0.2.2.2.2.2.2.2.1
theorem dX5_isIn_14 : decode cX5_isIn 14 = .ok (.iconst 0, 1) := wtX5_isIn_0.2.2.2.2.2.2.2.2.1
theorem dX5_isIn_15 : decode cX5_isIn 15 = .ok (.ireturn, 1) := wtX5_isIn_0.2.2.2.2.2.2.2.2.2.1
theorem wtX5_one_0 : dwcj cX5_one 0 [(0, .iload_n 0, 1), (1, .ifCond .eq 7, 3), (4, .iconst 1, 1), (5, .goto 4, 3), (8, .iconst 0, 1), (9, .ireturn, 1)] := dw_all (l := [26, 153, 0, 7, 4, 167, 0, 4, 3, 172]) (by decide +kernel)
theorem dX5_one_0 : decode cX5_one 0 = .ok (.iload_n 0, 1) := wtX5_one_0.1
theorem dX5_one_1 : decode cX5_one 1 = .ok (.ifCond .eq 7, 3) := wtX5_one_0.2.1
theorem dX5_one_4 : decode cX5_one 4 = .ok (.iconst 1, 1) := wtX5_one_0.2.2.1
theorem dX5_one_5 : decode cX5_one 5 = .ok (.goto 4, 3) := wtX5_one_0.2.2.2.1
theorem dX5_one_8 : decode cX5_one 8 = .ok (.iconst 0, 1) := wtX5_one_0.2.2.2.2.1
theorem dX5_one_9 : decode cX5_one 9 = .ok (.ireturn, 1) := wtX5_one_0.2.2.2.2.2.1
theorem wtX5_refuse_0 : dwcj cX5_refuse 0 [(0, .iload_n 1, 1), (1, .ifCond .eq 15, 3), (4, .aload_n 0, 1), (5, .getfield 13, 3), (8, .ifCond .ne 8, 3), (11, .aload_n 0, 1), (12, .iload_n 2, 1), (13, .putfield 13, 3), (16, .aload_n 0, 1), (17, .getfield 13, 3), (20, .ifCond .le 7, 3), (23, .iconst 1, 1)] := dw_all (l := [27, 153, 0, 15, 42, 180, 0, 13, 154, 0, 8, 42, 28, 181, 0, 13, 42, 180, 0, 13, 158, 0, 7, 4]) (by decide +kernel)
theorem dX5_refuse_0 : decode cX5_refuse 0 = .ok (.iload_n 1, 1) := wtX5_refuse_0.1
theorem dX5_refuse_1 : decode cX5_refuse 1 = .ok (.ifCond .eq 15, 3) := wtX5_refuse_0.2.1
theorem dX5_refuse_4 : decode cX5_refuse 4 = .ok (.aload_n 0, 1) := wtX5_refuse_0.2.2.1
theorem dX5_refuse_5 : decode cX5_refuse 5 = .ok (.getfield 13, 3) := wtX5_refuse_0.2.2.2.1
theorem dX5_refuse_8 : decode cX5_refuse 8 = .ok (.ifCond .ne 8, 3) := wtX5_refuse_0.2.2.2.2.1
theorem dX5_refuse_11 : decode cX5_refuse 11 = .ok (.aload_n 0, 1) := wtX5_refuse_0.2.2.2.2.2.1
theorem dX5_refuse_12 : decode cX5_refuse 12 = .ok (.iload_n 2, 1) := wtX5_refuse_0.2.2.2.2.2.2.1
theorem dX5_refuse_13 : decode cX5_refuse 13 = .ok (.putfield 13, 3) := wtX5_refuse_0.2.2.2.2.2.2.2.1
theorem dX5_refuse_16 : decode cX5_refuse 16 = .ok (.aload_n 0, 1) := wtX5_refuse_0.2.2.2.2.2.2.2.2.1
theorem dX5_refuse_17 : decode cX5_refuse 17 = .ok (.getfield 13, 3) := wtX5_refuse_0.2.2.2.2.2.2.2.2.2.1
theorem dX5_refuse_20 : decode cX5_refuse 20 = .ok (.ifCond .le 7, 3) := wtX5_refuse_0.2.2.2.2.2.2.2.2.2.2.1
theorem dX5_refuse_23 : decode cX5_refuse 23 = .ok (.iconst 1, 1) := wtX5_refuse_0.2.2.2.2.2.2.2.2.2.2.2.1
theorem wtX5_refuse_24 : dwcj cX5_refuse 24 [(0, .goto 4, 3), (3, .iconst 0, 1), (4, .ireturn, 1)] := dw_all (l := [167, 0, 4, 3, 172]) (by decide +kernel)
theorem dX5_refuse_24 : decode cX5_refuse 24 = .ok (.goto 4, 3) := wtX5_refuse_24.1
theorem dX5_refuse_27 : decode cX5_refuse 27 = .ok (.iconst 0, 1) := wtX5_refuse_24.2.1
theorem dX5_refuse_28 : decode cX5_refuse 28 = .ok (.ireturn, 1) := wtX5_refuse_24.2.2.1
theorem wtX5_start_0 : dwcj cX5_start 0 [(0, .aload_n 0, 1), (1, .iconst 0, 1), (2, .putfield 13, 3), (5, .aload_n 0, 1), (6, .iload_n 1, 1), (7, .iload_n 2, 1), (8, .invokevirtual 17, 3), (11, .ireturn, 1)] := dw_all (l := [42, 3, 181, 0, 13, 42, 27, 28, 182, 0, 17, 172]) (by decide +kernel)
theorem dX5_start_0 : decode cX5_start 0 = .ok (.aload_n 0, 1) := wtX5_start_0.1
theorem dX5_start_1 : decode cX5_start 1 = .ok (.iconst 0, 1) := wtX5_start_0.2.1
theorem dX5_start_2 : decode cX5_start 2 = .ok (.putfield 13, 3) := wtX5_start_0.2.2.1
theorem dX5_start_5 : decode cX5_start 5 = .ok (.aload_n 0, 1) := wtX5_start_0.2.2.2.1
theorem dX5_start_6 : decode cX5_start 6 = .ok (.iload_n 1, 1) := wtX5_start_0.2.2.2.2.1
theorem dX5_start_7 : decode cX5_start 7 = .ok (.iload_n 2, 1) := wtX5_start_0.2.2.2.2.2.1
theorem dX5_start_8 : decode cX5_start 8 = .ok (.invokevirtual 17, 3) := wtX5_start_0.2.2.2.2.2.2.1
theorem dX5_start_11 : decode cX5_start 11 = .ok (.ireturn, 1) := wtX5_start_0.2.2.2.2.2.2.2.1
theorem wtX5_isNo_0 : dwcj cX5_isNo 0 [(0, .iload_n 0, 1), (1, .iconst 0, 1), (2, .iconst 5, 1), (3, .invokestatic 21, 3), (6, .ifCond .ne 7, 3), (9, .iconst 1, 1), (10, .goto 4, 3), (13, .iconst 0, 1), (14, .ireturn, 1)] := dw_all (l := [26, 3, 8, 184, 0, 21, 154, 0, 7, 4, 167, 0, 4, 3, 172]) (by decide +kernel)
theorem dX5_isNo_0 : decode cX5_isNo 0 = .ok (.iload_n 0, 1) := wtX5_isNo_0.1
theorem dX5_isNo_1 : decode cX5_isNo 1 = .ok (.iconst 0, 1) := wtX5_isNo_0.2.1
theorem dX5_isNo_2 : decode cX5_isNo 2 = .ok (.iconst 5, 1) := wtX5_isNo_0.2.2.1
theorem dX5_isNo_3 : decode cX5_isNo 3 = .ok (.invokestatic 21, 3) := wtX5_isNo_0.2.2.2.1
theorem dX5_isNo_6 : decode cX5_isNo 6 = .ok (.ifCond .ne 7, 3) := wtX5_isNo_0.2.2.2.2.1
theorem dX5_isNo_9 : decode cX5_isNo 9 = .ok (.iconst 1, 1) := wtX5_isNo_0.2.2.2.2.2.1
theorem dX5_isNo_10 : decode cX5_isNo 10 = .ok (.goto 4, 3) := wtX5_isNo_0.2.2.2.2.2.2.1
theorem dX5_isNo_13 : decode cX5_isNo 13 = .ok (.iconst 0, 1) := wtX5_isNo_0.2.2.2.2.2.2.2.1
theorem dX5_isNo_14 : decode cX5_isNo 14 = .ok (.ireturn, 1) := wtX5_isNo_0.2.2.2.2.2.2.2.2.1
theorem wtX5_degreeOf_0 : dwcj cX5_degreeOf 0 [(0, .iconst (-1), 1), (1, .istore_n 2, 1), (2, .lload_n 0, 1), (3, .lstore_n 3, 1), (4, .lload_n 3, 1), (5, .lconst 0, 1), (6, .lcmp, 1), (7, .ifCond .eq 13, 3), (10, .iinc 2 1, 3), (13, .lload_n 3, 1), (14, .iconst 1, 1), (15, .lushr, 1), (16, .lstore_n 3, 1), (17, .goto (-13), 3), (20, .iload_n 2, 1), (21, .ireturn, 1)] := dw_all (l := [2, 61, 30, 66, 33, 9, 148, 153, 0, 13, 132, 2, 1, 33, 4, 125, 66, 167, 255, 243, 28, 172]) (by decide +kernel)
theorem dX5_degreeOf_0 : decode cX5_degreeOf 0 = .ok (.iconst (-1), 1) := wtX5_degreeOf_0.1
theorem dX5_degreeOf_1 : decode cX5_degreeOf 1 = .ok (.istore_n 2, 1) := wtX5_degreeOf_0.2.1
theorem dX5_degreeOf_2 : decode cX5_degreeOf 2 = .ok (.lload_n 0, 1) := wtX5_degreeOf_0.2.2.1
theorem dX5_degreeOf_3 : decode cX5_degreeOf 3 = .ok (.lstore_n 3, 1) := wtX5_degreeOf_0.2.2.2.1
theorem dX5_degreeOf_4 : decode cX5_degreeOf 4 = .ok (.lload_n 3, 1) := wtX5_degreeOf_0.2.2.2.2.1
theorem dX5_degreeOf_5 : decode cX5_degreeOf 5 = .ok (.lconst 0, 1) := wtX5_degreeOf_0.2.2.2.2.2.1
theorem dX5_degreeOf_6 : decode cX5_degreeOf 6 = .ok (.lcmp, 1) := wtX5_degreeOf_0.2.2.2.2.2.2.1
theorem dX5_degreeOf_7 : decode cX5_degreeOf 7 = .ok (.ifCond .eq 13, 3) := wtX5_degreeOf_0.2.2.2.2.2.2.2.1
theorem dX5_degreeOf_10 : decode cX5_degreeOf 10 = .ok (.iinc 2 1, 3) := wtX5_degreeOf_0.2.2.2.2.2.2.2.2.1
theorem dX5_degreeOf_13 : decode cX5_degreeOf 13 = .ok (.lload_n 3, 1) := wtX5_degreeOf_0.2.2.2.2.2.2.2.2.2.1
theorem dX5_degreeOf_14 : decode cX5_degreeOf 14 = .ok (.iconst 1, 1) := wtX5_degreeOf_0.2.2.2.2.2.2.2.2.2.2.1
theorem dX5_degreeOf_15 : decode cX5_degreeOf 15 = .ok (.lushr, 1) := wtX5_degreeOf_0.2.2.2.2.2.2.2.2.2.2.2.1
theorem dX5_degreeOf_16 : decode cX5_degreeOf 16 = .ok (.lstore_n 3, 1) := wtX5_degreeOf_0.2.2.2.2.2.2.2.2.2.2.2.2.1
theorem dX5_degreeOf_17 : decode cX5_degreeOf 17 = .ok (.goto (-13), 3) := wtX5_degreeOf_0.2.2.2.2.2.2.2.2.2.2.2.2.2.1
theorem dX5_degreeOf_20 : decode cX5_degreeOf 20 = .ok (.iload_n 2, 1) := wtX5_degreeOf_0.2.2.2.2.2.2.2.2.2.2.2.2.2.2.1
theorem dX5_degreeOf_21 : decode cX5_degreeOf 21 = .ok (.ireturn, 1) := wtX5_degreeOf_0.2.2.2.2.2.2.2.2.2.2.2.2.2.2.2.1
theorem wtX5_lowOf_0 : dwcj cX5_lowOf 0 [(0, .iconst 0, 1), (1, .istore_n 2, 1), (2, .iload_n 2, 1), (3, .bipush 32, 2), (5, .if_icmp .gt 19, 3), (8, .lload_n 0, 1), (9, .iload_n 2, 1), (10, .invokestatic 25, 3), (13, .ifCond .eq 5, 3), (16, .iload_n 2, 1), (17, .ireturn, 1), (18, .iinc 2 1, 3), (21, .goto (-19), 3)] := dw_all (l := [3, 61, 28, 16, 32, 163, 0, 19, 30, 28, 184, 0, 25, 153, 0, 5, 28, 172, 132, 2, 1, 167, 255, 237]) (by decide +kernel)
theorem dX5_lowOf_0 : decode cX5_lowOf 0 = .ok (.iconst 0, 1) := wtX5_lowOf_0.1
theorem dX5_lowOf_1 : decode cX5_lowOf 1 = .ok (.istore_n 2, 1) := wtX5_lowOf_0.2.1
theorem dX5_lowOf_2 : decode cX5_lowOf 2 = .ok (.iload_n 2, 1) := wtX5_lowOf_0.2.2.1
theorem dX5_lowOf_3 : decode cX5_lowOf 3 = .ok (.bipush 32, 2) := wtX5_lowOf_0.2.2.2.1
theorem dX5_lowOf_5 : decode cX5_lowOf 5 = .ok (.if_icmp .gt 19, 3) := wtX5_lowOf_0.2.2.2.2.1
theorem dX5_lowOf_8 : decode cX5_lowOf 8 = .ok (.lload_n 0, 1) := wtX5_lowOf_0.2.2.2.2.2.1
theorem dX5_lowOf_9 : decode cX5_lowOf 9 = .ok (.iload_n 2, 1) := wtX5_lowOf_0.2.2.2.2.2.2.1
theorem dX5_lowOf_10 : decode cX5_lowOf 10 = .ok (.invokestatic 25, 3) := wtX5_lowOf_0.2.2.2.2.2.2.2.1
theorem dX5_lowOf_13 : decode cX5_lowOf 13 = .ok (.ifCond .eq 5, 3) := wtX5_lowOf_0.2.2.2.2.2.2.2.2.1
theorem dX5_lowOf_16 : decode cX5_lowOf 16 = .ok (.iload_n 2, 1) := wtX5_lowOf_0.2.2.2.2.2.2.2.2.2.1
theorem dX5_lowOf_17 : decode cX5_lowOf 17 = .ok (.ireturn, 1) := wtX5_lowOf_0.2.2.2.2.2.2.2.2.2.2.1
theorem dX5_lowOf_18 : decode cX5_lowOf 18 = .ok (.iinc 2 1, 3) := wtX5_lowOf_0.2.2.2.2.2.2.2.2.2.2.2.1
theorem dX5_lowOf_21 : decode cX5_lowOf 21 = .ok (.goto (-19), 3) := wtX5_lowOf_0.2.2.2.2.2.2.2.2.2.2.2.2.1
theorem wtX5_lowOf_24 : dwcj cX5_lowOf 24 [(0, .iconst (-1), 1), (1, .ireturn, 1)] := dw_all (l := [2, 172]) (by decide +kernel)
theorem dX5_lowOf_24 : decode cX5_lowOf 24 = .ok (.iconst (-1), 1) := wtX5_lowOf_24.1
theorem dX5_lowOf_25 : decode cX5_lowOf 25 = .ok (.ireturn, 1) := wtX5_lowOf_24.2.1
theorem wtX5_weightOf_0 : dwcj cX5_weightOf 0 [(0, .iconst 0, 1), (1, .istore_n 2, 1), (2, .iconst 0, 1), (3, .istore_n 3, 1), (4, .iload_n 3, 1), (5, .bipush 32, 2), (7, .if_icmp .gt 20, 3), (10, .iload_n 2, 1), (11, .lload_n 0, 1), (12, .iload_n 3, 1), (13, .invokestatic 25, 3), (16, .invokestatic 29, 3), (19, .iadd, 1), (20, .istore_n 2, 1), (21, .iinc 3 1, 3)] := dw_all (l := [3, 61, 3, 62, 29, 16, 32, 163, 0, 20, 28, 30, 29, 184, 0, 25, 184, 0, 29, 96, 61, 132, 3, 1]) (by decide +kernel)
theorem dX5_weightOf_0 : decode cX5_weightOf 0 = .ok (.iconst 0, 1) := wtX5_weightOf_0.1
theorem dX5_weightOf_1 : decode cX5_weightOf 1 = .ok (.istore_n 2, 1) := wtX5_weightOf_0.2.1
theorem dX5_weightOf_2 : decode cX5_weightOf 2 = .ok (.iconst 0, 1) := wtX5_weightOf_0.2.2.1
theorem dX5_weightOf_3 : decode cX5_weightOf 3 = .ok (.istore_n 3, 1) := wtX5_weightOf_0.2.2.2.1
theorem dX5_weightOf_4 : decode cX5_weightOf 4 = .ok (.iload_n 3, 1) := wtX5_weightOf_0.2.2.2.2.1
theorem dX5_weightOf_5 : decode cX5_weightOf 5 = .ok (.bipush 32, 2) := wtX5_weightOf_0.2.2.2.2.2.1
theorem dX5_weightOf_7 : decode cX5_weightOf 7 = .ok (.if_icmp .gt 20, 3) := wtX5_weightOf_0.2.2.2.2.2.2.1
theorem dX5_weightOf_10 : decode cX5_weightOf 10 = .ok (.iload_n 2, 1) := wtX5_weightOf_0.2.2.2.2.2.2.2.1
theorem dX5_weightOf_11 : decode cX5_weightOf 11 = .ok (.lload_n 0, 1) := wtX5_weightOf_0.2.2.2.2.2.2.2.2.1
theorem dX5_weightOf_12 : decode cX5_weightOf 12 = .ok (.iload_n 3, 1) := wtX5_weightOf_0.2.2.2.2.2.2.2.2.2.1
theorem dX5_weightOf_13 : decode cX5_weightOf 13 = .ok (.invokestatic 25, 3) := wtX5_weightOf_0.2.2.2.2.2.2.2.2.2.2.1
theorem dX5_weightOf_16 : decode cX5_weightOf 16 = .ok (.invokestatic 29, 3) := wtX5_weightOf_0.2.2.2.2.2.2.2.2.2.2.2.1
theorem dX5_weightOf_19 : decode cX5_weightOf 19 = .ok (.iadd, 1) := wtX5_weightOf_0.2.2.2.2.2.2.2.2.2.2.2.2.1
theorem dX5_weightOf_20 : decode cX5_weightOf 20 = .ok (.istore_n 2, 1) := wtX5_weightOf_0.2.2.2.2.2.2.2.2.2.2.2.2.2.1
theorem dX5_weightOf_21 : decode cX5_weightOf 21 = .ok (.iinc 3 1, 3) := wtX5_weightOf_0.2.2.2.2.2.2.2.2.2.2.2.2.2.2.1
theorem wtX5_weightOf_24 : dwcj cX5_weightOf 24 [(0, .goto (-20), 3), (3, .iload_n 2, 1), (4, .ireturn, 1)] := dw_all (l := [167, 255, 236, 28, 172]) (by decide +kernel)
theorem dX5_weightOf_24 : decode cX5_weightOf 24 = .ok (.goto (-20), 3) := wtX5_weightOf_24.1
theorem dX5_weightOf_27 : decode cX5_weightOf 27 = .ok (.iload_n 2, 1) := wtX5_weightOf_24.2.1
theorem dX5_weightOf_28 : decode cX5_weightOf 28 = .ok (.ireturn, 1) := wtX5_weightOf_24.2.2.1
theorem wtX5_has_0 : dwcj cX5_has 0 [(0, .iload_n 2, 1), (1, .bipush 64, 2), (3, .if_icmp .ge 17, 3), (6, .lload_n 0, 1), (7, .iload_n 2, 1), (8, .lushr, 1), (9, .lconst 1, 1), (10, .land, 1), (11, .lconst 1, 1), (12, .lcmp, 1), (13, .ifCond .ne 7, 3), (16, .iconst 1, 1), (17, .goto 4, 3), (20, .iconst 0, 1), (21, .ireturn, 1)] := dw_all (l := [28, 16, 64, 162, 0, 17, 30, 28, 125, 10, 127, 10, 148, 154, 0, 7, 4, 167, 0, 4, 3, 172]) (by decide +kernel)
theorem dX5_has_0 : decode cX5_has 0 = .ok (.iload_n 2, 1) := wtX5_has_0.1
theorem dX5_has_1 : decode cX5_has 1 = .ok (.bipush 64, 2) := wtX5_has_0.2.1
theorem dX5_has_3 : decode cX5_has 3 = .ok (.if_icmp .ge 17, 3) := wtX5_has_0.2.2.1
theorem dX5_has_6 : decode cX5_has 6 = .ok (.lload_n 0, 1) := wtX5_has_0.2.2.2.1
theorem dX5_has_7 : decode cX5_has 7 = .ok (.iload_n 2, 1) := wtX5_has_0.2.2.2.2.1
theorem dX5_has_8 : decode cX5_has 8 = .ok (.lushr, 1) := wtX5_has_0.2.2.2.2.2.1
theorem dX5_has_9 : decode cX5_has 9 = .ok (.lconst 1, 1) := wtX5_has_0.2.2.2.2.2.2.1
theorem dX5_has_10 : decode cX5_has 10 = .ok (.land, 1) := wtX5_has_0.2.2.2.2.2.2.2.1
theorem dX5_has_11 : decode cX5_has 11 = .ok (.lconst 1, 1) := wtX5_has_0.2.2.2.2.2.2.2.2.1
theorem dX5_has_12 : decode cX5_has 12 = .ok (.lcmp, 1) := wtX5_has_0.2.2.2.2.2.2.2.2.2.1
theorem dX5_has_13 : decode cX5_has 13 = .ok (.ifCond .ne 7, 3) := wtX5_has_0.2.2.2.2.2.2.2.2.2.2.1
theorem dX5_has_16 : decode cX5_has 16 = .ok (.iconst 1, 1) := wtX5_has_0.2.2.2.2.2.2.2.2.2.2.2.1
theorem dX5_has_17 : decode cX5_has 17 = .ok (.goto 4, 3) := wtX5_has_0.2.2.2.2.2.2.2.2.2.2.2.2.1
theorem dX5_has_20 : decode cX5_has 20 = .ok (.iconst 0, 1) := wtX5_has_0.2.2.2.2.2.2.2.2.2.2.2.2.2.1
theorem dX5_has_21 : decode cX5_has 21 = .ok (.ireturn, 1) := wtX5_has_0.2.2.2.2.2.2.2.2.2.2.2.2.2.2.1
theorem wtX5_product_0 : dwcj cX5_product 0 [(0, .lconst 0, 1), (1, .lstore 4, 2), (3, .lload_n 0, 1), (4, .lstore 6, 2), (6, .lload_n 2, 1), (7, .lstore 8, 2), (9, .lload 8, 2), (11, .lconst 0, 1), (12, .lcmp, 1), (13, .ifCond .eq 34, 3), (16, .lload 8, 2), (18, .iconst 0, 1), (19, .invokestatic 25, 3), (22, .ifCond .eq 10, 3)] := dw_all (l := [9, 55, 4, 30, 55, 6, 32, 55, 8, 22, 8, 9, 148, 153, 0, 34, 22, 8, 3, 184, 0, 25, 153, 0, 10]) (by decide +kernel)
theorem dX5_product_0 : decode cX5_product 0 = .ok (.lconst 0, 1) := wtX5_product_0.1
theorem dX5_product_1 : decode cX5_product 1 = .ok (.lstore 4, 2) := wtX5_product_0.2.1
theorem dX5_product_3 : decode cX5_product 3 = .ok (.lload_n 0, 1) := wtX5_product_0.2.2.1
theorem dX5_product_4 : decode cX5_product 4 = .ok (.lstore 6, 2) := wtX5_product_0.2.2.2.1
theorem dX5_product_6 : decode cX5_product 6 = .ok (.lload_n 2, 1) := wtX5_product_0.2.2.2.2.1
theorem dX5_product_7 : decode cX5_product 7 = .ok (.lstore 8, 2) := wtX5_product_0.2.2.2.2.2.1
theorem dX5_product_9 : decode cX5_product 9 = .ok (.lload 8, 2) := wtX5_product_0.2.2.2.2.2.2.1
theorem dX5_product_11 : decode cX5_product 11 = .ok (.lconst 0, 1) := wtX5_product_0.2.2.2.2.2.2.2.1
theorem dX5_product_12 : decode cX5_product 12 = .ok (.lcmp, 1) := wtX5_product_0.2.2.2.2.2.2.2.2.1
theorem dX5_product_13 : decode cX5_product 13 = .ok (.ifCond .eq 34, 3) := wtX5_product_0.2.2.2.2.2.2.2.2.2.1
theorem dX5_product_16 : decode cX5_product 16 = .ok (.lload 8, 2) := wtX5_product_0.2.2.2.2.2.2.2.2.2.2.1
theorem dX5_product_18 : decode cX5_product 18 = .ok (.iconst 0, 1) := wtX5_product_0.2.2.2.2.2.2.2.2.2.2.2.1
theorem dX5_product_19 : decode cX5_product 19 = .ok (.invokestatic 25, 3) := wtX5_product_0.2.2.2.2.2.2.2.2.2.2.2.2.1
theorem dX5_product_22 : decode cX5_product 22 = .ok (.ifCond .eq 10, 3) := wtX5_product_0.2.2.2.2.2.2.2.2.2.2.2.2.2.1
theorem wtX5_product_25 : dwcj cX5_product 25 [(0, .lload 4, 2), (2, .lload 6, 2), (4, .lxor, 1), (5, .lstore 4, 2), (7, .lload 6, 2), (9, .iconst 1, 1), (10, .lshl, 1), (11, .lstore 6, 2), (13, .lload 8, 2), (15, .iconst 1, 1), (16, .lushr, 1), (17, .lstore 8, 2), (19, .goto (-35), 3), (22, .lload 4, 2)] := dw_all (l := [22, 4, 22, 6, 131, 55, 4, 22, 6, 4, 121, 55, 6, 22, 8, 4, 125, 55, 8, 167, 255, 221, 22, 4]) (by decide +kernel)
theorem dX5_product_25 : decode cX5_product 25 = .ok (.lload 4, 2) := wtX5_product_25.1
theorem dX5_product_27 : decode cX5_product 27 = .ok (.lload 6, 2) := wtX5_product_25.2.1
theorem dX5_product_29 : decode cX5_product 29 = .ok (.lxor, 1) := wtX5_product_25.2.2.1
theorem dX5_product_30 : decode cX5_product 30 = .ok (.lstore 4, 2) := wtX5_product_25.2.2.2.1
theorem dX5_product_32 : decode cX5_product 32 = .ok (.lload 6, 2) := wtX5_product_25.2.2.2.2.1
theorem dX5_product_34 : decode cX5_product 34 = .ok (.iconst 1, 1) := wtX5_product_25.2.2.2.2.2.1
theorem dX5_product_35 : decode cX5_product 35 = .ok (.lshl, 1) := wtX5_product_25.2.2.2.2.2.2.1
theorem dX5_product_36 : decode cX5_product 36 = .ok (.lstore 6, 2) := wtX5_product_25.2.2.2.2.2.2.2.1
theorem dX5_product_38 : decode cX5_product 38 = .ok (.lload 8, 2) := wtX5_product_25.2.2.2.2.2.2.2.2.1
theorem dX5_product_40 : decode cX5_product 40 = .ok (.iconst 1, 1) := wtX5_product_25.2.2.2.2.2.2.2.2.2.1
theorem dX5_product_41 : decode cX5_product 41 = .ok (.lushr, 1) := wtX5_product_25.2.2.2.2.2.2.2.2.2.2.1
theorem dX5_product_42 : decode cX5_product 42 = .ok (.lstore 8, 2) := wtX5_product_25.2.2.2.2.2.2.2.2.2.2.2.1
theorem dX5_product_44 : decode cX5_product 44 = .ok (.goto (-35), 3) := wtX5_product_25.2.2.2.2.2.2.2.2.2.2.2.2.1
theorem dX5_product_47 : decode cX5_product 47 = .ok (.lload 4, 2) := wtX5_product_25.2.2.2.2.2.2.2.2.2.2.2.2.2.1
theorem wtX5_product_49 : dwcj cX5_product 49 [(0, .lreturn, 1)] := dw_all (l := [173]) (by decide +kernel)
theorem dX5_product_49 : decode cX5_product 49 = .ok (.lreturn, 1) := wtX5_product_49.1
theorem wtX5_quotientOf_0 : dwcj cX5_quotientOf 0 [(0, .lload_n 2, 1), (1, .invokestatic 33, 3), (4, .istore 4, 2), (6, .lload_n 0, 1), (7, .lstore 5, 2), (9, .lconst 0, 1), (10, .lstore 7, 2), (12, .lload_n 0, 1), (13, .invokestatic 33, 3), (16, .istore 9, 2), (18, .iload 9, 2), (20, .iload 4, 2), (22, .if_icmp .lt 46, 3)] := dw_all (l := [32, 184, 0, 33, 54, 4, 30, 55, 5, 9, 55, 7, 30, 184, 0, 33, 54, 9, 21, 9, 21, 4, 161, 0, 46]) (by decide +kernel)
theorem dX5_quotientOf_0 : decode cX5_quotientOf 0 = .ok (.lload_n 2, 1) := wtX5_quotientOf_0.1
theorem dX5_quotientOf_1 : decode cX5_quotientOf 1 = .ok (.invokestatic 33, 3) := wtX5_quotientOf_0.2.1
theorem dX5_quotientOf_4 : decode cX5_quotientOf 4 = .ok (.istore 4, 2) := wtX5_quotientOf_0.2.2.1
theorem dX5_quotientOf_6 : decode cX5_quotientOf 6 = .ok (.lload_n 0, 1) := wtX5_quotientOf_0.2.2.2.1
theorem dX5_quotientOf_7 : decode cX5_quotientOf 7 = .ok (.lstore 5, 2) := wtX5_quotientOf_0.2.2.2.2.1
theorem dX5_quotientOf_9 : decode cX5_quotientOf 9 = .ok (.lconst 0, 1) := wtX5_quotientOf_0.2.2.2.2.2.1
theorem dX5_quotientOf_10 : decode cX5_quotientOf 10 = .ok (.lstore 7, 2) := wtX5_quotientOf_0.2.2.2.2.2.2.1
theorem dX5_quotientOf_12 : decode cX5_quotientOf 12 = .ok (.lload_n 0, 1) := wtX5_quotientOf_0.2.2.2.2.2.2.2.1
theorem dX5_quotientOf_13 : decode cX5_quotientOf 13 = .ok (.invokestatic 33, 3) := wtX5_quotientOf_0.2.2.2.2.2.2.2.2.1
theorem dX5_quotientOf_16 : decode cX5_quotientOf 16 = .ok (.istore 9, 2) := wtX5_quotientOf_0.2.2.2.2.2.2.2.2.2.1
theorem dX5_quotientOf_18 : decode cX5_quotientOf 18 = .ok (.iload 9, 2) := wtX5_quotientOf_0.2.2.2.2.2.2.2.2.2.2.1
theorem dX5_quotientOf_20 : decode cX5_quotientOf 20 = .ok (.iload 4, 2) := wtX5_quotientOf_0.2.2.2.2.2.2.2.2.2.2.2.1
theorem dX5_quotientOf_22 : decode cX5_quotientOf 22 = .ok (.if_icmp .lt 46, 3) := wtX5_quotientOf_0.2.2.2.2.2.2.2.2.2.2.2.2.1
theorem wtX5_quotientOf_25 : dwcj cX5_quotientOf 25 [(0, .lload 5, 2), (2, .iload 9, 2), (4, .invokestatic 25, 3), (7, .ifCond .ne 6, 3), (10, .goto 27, 3), (13, .lload 5, 2), (15, .lload_n 2, 1), (16, .iload 9, 2), (18, .iload 4, 2), (20, .isub, 1), (21, .lshl, 1), (22, .lxor, 1), (23, .lstore 5, 2)] := dw_all (l := [22, 5, 21, 9, 184, 0, 25, 154, 0, 6, 167, 0, 27, 22, 5, 32, 21, 9, 21, 4, 100, 121, 131, 55, 5]) (by decide +kernel)
theorem dX5_quotientOf_25 : decode cX5_quotientOf 25 = .ok (.lload 5, 2) := wtX5_quotientOf_25.1
theorem dX5_quotientOf_27 : decode cX5_quotientOf 27 = .ok (.iload 9, 2) := wtX5_quotientOf_25.2.1
theorem dX5_quotientOf_29 : decode cX5_quotientOf 29 = .ok (.invokestatic 25, 3) := wtX5_quotientOf_25.2.2.1
theorem dX5_quotientOf_32 : decode cX5_quotientOf 32 = .ok (.ifCond .ne 6, 3) := wtX5_quotientOf_25.2.2.2.1
theorem dX5_quotientOf_35 : decode cX5_quotientOf 35 = .ok (.goto 27, 3) := wtX5_quotientOf_25.2.2.2.2.1
theorem dX5_quotientOf_38 : decode cX5_quotientOf 38 = .ok (.lload 5, 2) := wtX5_quotientOf_25.2.2.2.2.2.1
theorem dX5_quotientOf_40 : decode cX5_quotientOf 40 = .ok (.lload_n 2, 1) := wtX5_quotientOf_25.2.2.2.2.2.2.1
theorem dX5_quotientOf_41 : decode cX5_quotientOf 41 = .ok (.iload 9, 2) := wtX5_quotientOf_25.2.2.2.2.2.2.2.1
theorem dX5_quotientOf_43 : decode cX5_quotientOf 43 = .ok (.iload 4, 2) := wtX5_quotientOf_25.2.2.2.2.2.2.2.2.1
theorem dX5_quotientOf_45 : decode cX5_quotientOf 45 = .ok (.isub, 1) := wtX5_quotientOf_25.2.2.2.2.2.2.2.2.2.1
theorem dX5_quotientOf_46 : decode cX5_quotientOf 46 = .ok (.lshl, 1) := wtX5_quotientOf_25.2.2.2.2.2.2.2.2.2.2.1
theorem dX5_quotientOf_47 : decode cX5_quotientOf 47 = .ok (.lxor, 1) := wtX5_quotientOf_25.2.2.2.2.2.2.2.2.2.2.2.1
theorem dX5_quotientOf_48 : decode cX5_quotientOf 48 = .ok (.lstore 5, 2) := wtX5_quotientOf_25.2.2.2.2.2.2.2.2.2.2.2.2.1
theorem wtX5_quotientOf_50 : dwcj cX5_quotientOf 50 [(0, .lload 7, 2), (2, .lconst 1, 1), (3, .iload 9, 2), (5, .iload 4, 2), (7, .isub, 1), (8, .lshl, 1), (9, .lor, 1), (10, .lstore 7, 2), (12, .iinc 9 (-1), 3), (15, .goto (-47), 3), (18, .lload 7, 2), (20, .lreturn, 1)] := dw_all (l := [22, 7, 10, 21, 9, 21, 4, 100, 121, 129, 55, 7, 132, 9, 255, 167, 255, 209, 22, 7, 173]) (by decide +kernel)
theorem dX5_quotientOf_50 : decode cX5_quotientOf 50 = .ok (.lload 7, 2) := wtX5_quotientOf_50.1
theorem dX5_quotientOf_52 : decode cX5_quotientOf 52 = .ok (.lconst 1, 1) := wtX5_quotientOf_50.2.1
theorem dX5_quotientOf_53 : decode cX5_quotientOf 53 = .ok (.iload 9, 2) := wtX5_quotientOf_50.2.2.1
theorem dX5_quotientOf_55 : decode cX5_quotientOf 55 = .ok (.iload 4, 2) := wtX5_quotientOf_50.2.2.2.1
theorem dX5_quotientOf_57 : decode cX5_quotientOf 57 = .ok (.isub, 1) := wtX5_quotientOf_50.2.2.2.2.1
theorem dX5_quotientOf_58 : decode cX5_quotientOf 58 = .ok (.lshl, 1) := wtX5_quotientOf_50.2.2.2.2.2.1
theorem dX5_quotientOf_59 : decode cX5_quotientOf 59 = .ok (.lor, 1) := wtX5_quotientOf_50.2.2.2.2.2.2.1
theorem dX5_quotientOf_60 : decode cX5_quotientOf 60 = .ok (.lstore 7, 2) := wtX5_quotientOf_50.2.2.2.2.2.2.2.1
theorem dX5_quotientOf_62 : decode cX5_quotientOf 62 = .ok (.iinc 9 (-1), 3) := wtX5_quotientOf_50.2.2.2.2.2.2.2.2.1
theorem dX5_quotientOf_65 : decode cX5_quotientOf 65 = .ok (.goto (-47), 3) := wtX5_quotientOf_50.2.2.2.2.2.2.2.2.2.1
theorem dX5_quotientOf_68 : decode cX5_quotientOf 68 = .ok (.lload 7, 2) := wtX5_quotientOf_50.2.2.2.2.2.2.2.2.2.2.1
theorem dX5_quotientOf_70 : decode cX5_quotientOf 70 = .ok (.lreturn, 1) := wtX5_quotientOf_50.2.2.2.2.2.2.2.2.2.2.2.1
theorem wtX5_restOf_0 : dwcj cX5_restOf 0 [(0, .lload_n 0, 1), (1, .lload_n 0, 1), (2, .lload_n 2, 1), (3, .invokestatic 37, 3), (6, .lload_n 2, 1), (7, .invokestatic 41, 3), (10, .lxor, 1), (11, .lreturn, 1)] := dw_all (l := [30, 30, 32, 184, 0, 37, 32, 184, 0, 41, 131, 173]) (by decide +kernel)
theorem dX5_restOf_0 : decode cX5_restOf 0 = .ok (.lload_n 0, 1) := wtX5_restOf_0.1
theorem dX5_restOf_1 : decode cX5_restOf 1 = .ok (.lload_n 0, 1) := wtX5_restOf_0.2.1
theorem dX5_restOf_2 : decode cX5_restOf 2 = .ok (.lload_n 2, 1) := wtX5_restOf_0.2.2.1
theorem dX5_restOf_3 : decode cX5_restOf 3 = .ok (.invokestatic 37, 3) := wtX5_restOf_0.2.2.2.1
theorem dX5_restOf_6 : decode cX5_restOf 6 = .ok (.lload_n 2, 1) := wtX5_restOf_0.2.2.2.2.1
theorem dX5_restOf_7 : decode cX5_restOf 7 = .ok (.invokestatic 41, 3) := wtX5_restOf_0.2.2.2.2.2.1
theorem dX5_restOf_10 : decode cX5_restOf 10 = .ok (.lxor, 1) := wtX5_restOf_0.2.2.2.2.2.2.1
theorem dX5_restOf_11 : decode cX5_restOf 11 = .ok (.lreturn, 1) := wtX5_restOf_0.2.2.2.2.2.2.2.1
theorem wtX5_euclid_0 : dwcj cX5_euclid 0 [(0, .lload_n 0, 1), (1, .lstore 5, 2), (3, .lload_n 2, 1), (4, .lstore 7, 2), (6, .iload 4, 2), (8, .ifCond .ne 7, 3), (11, .lload_n 0, 1), (12, .goto 14, 3), (15, .iload 4, 2), (17, .iconst 1, 1), (18, .if_icmp .ne 7, 3), (21, .lconst 1, 1), (22, .goto 4, 3)] := dw_all (l := [30, 55, 5, 32, 55, 7, 21, 4, 154, 0, 7, 30, 167, 0, 14, 21, 4, 4, 160, 0, 7, 10, 167, 0, 4]) (by decide +kernel)
theorem dX5_euclid_0 : decode cX5_euclid 0 = .ok (.lload_n 0, 1) := wtX5_euclid_0.1
theorem dX5_euclid_1 : decode cX5_euclid 1 = .ok (.lstore 5, 2) := wtX5_euclid_0.2.1
theorem dX5_euclid_3 : decode cX5_euclid 3 = .ok (.lload_n 2, 1) := wtX5_euclid_0.2.2.1
theorem dX5_euclid_4 : decode cX5_euclid 4 = .ok (.lstore 7, 2) := wtX5_euclid_0.2.2.2.1
theorem dX5_euclid_6 : decode cX5_euclid 6 = .ok (.iload 4, 2) := wtX5_euclid_0.2.2.2.2.1
theorem dX5_euclid_8 : decode cX5_euclid 8 = .ok (.ifCond .ne 7, 3) := wtX5_euclid_0.2.2.2.2.2.1
theorem dX5_euclid_11 : decode cX5_euclid 11 = .ok (.lload_n 0, 1) := wtX5_euclid_0.2.2.2.2.2.2.1
theorem dX5_euclid_12 : decode cX5_euclid 12 = .ok (.goto 14, 3) := wtX5_euclid_0.2.2.2.2.2.2.2.1
theorem dX5_euclid_15 : decode cX5_euclid 15 = .ok (.iload 4, 2) := wtX5_euclid_0.2.2.2.2.2.2.2.2.1
theorem dX5_euclid_17 : decode cX5_euclid 17 = .ok (.iconst 1, 1) := wtX5_euclid_0.2.2.2.2.2.2.2.2.2.1
theorem dX5_euclid_18 : decode cX5_euclid 18 = .ok (.if_icmp .ne 7, 3) := wtX5_euclid_0.2.2.2.2.2.2.2.2.2.2.1
theorem dX5_euclid_21 : decode cX5_euclid 21 = .ok (.lconst 1, 1) := wtX5_euclid_0.2.2.2.2.2.2.2.2.2.2.2.1
theorem dX5_euclid_22 : decode cX5_euclid 22 = .ok (.goto 4, 3) := wtX5_euclid_0.2.2.2.2.2.2.2.2.2.2.2.2.1
theorem wtX5_euclid_25 : dwcj cX5_euclid 25 [(0, .lconst 0, 1), (1, .lstore 9, 2), (3, .iload 4, 2), (5, .ifCond .ne 7, 3), (8, .lload_n 2, 1), (9, .goto 14, 3), (12, .iload 4, 2), (14, .iconst 1, 1), (15, .if_icmp .ne 7, 3), (18, .lconst 0, 1), (19, .goto 4, 3), (22, .lconst 1, 1), (23, .lstore 11, 2)] := dw_all (l := [9, 55, 9, 21, 4, 154, 0, 7, 32, 167, 0, 14, 21, 4, 4, 160, 0, 7, 9, 167, 0, 4, 10, 55, 11]) (by decide +kernel)
theorem dX5_euclid_25 : decode cX5_euclid 25 = .ok (.lconst 0, 1) := wtX5_euclid_25.1
theorem dX5_euclid_26 : decode cX5_euclid 26 = .ok (.lstore 9, 2) := wtX5_euclid_25.2.1
theorem dX5_euclid_28 : decode cX5_euclid 28 = .ok (.iload 4, 2) := wtX5_euclid_25.2.2.1
theorem dX5_euclid_30 : decode cX5_euclid 30 = .ok (.ifCond .ne 7, 3) := wtX5_euclid_25.2.2.2.1
theorem dX5_euclid_33 : decode cX5_euclid 33 = .ok (.lload_n 2, 1) := wtX5_euclid_25.2.2.2.2.1
theorem dX5_euclid_34 : decode cX5_euclid 34 = .ok (.goto 14, 3) := wtX5_euclid_25.2.2.2.2.2.1
theorem dX5_euclid_37 : decode cX5_euclid 37 = .ok (.iload 4, 2) := wtX5_euclid_25.2.2.2.2.2.2.1
theorem dX5_euclid_39 : decode cX5_euclid 39 = .ok (.iconst 1, 1) := wtX5_euclid_25.2.2.2.2.2.2.2.1
theorem dX5_euclid_40 : decode cX5_euclid 40 = .ok (.if_icmp .ne 7, 3) := wtX5_euclid_25.2.2.2.2.2.2.2.2.1
theorem dX5_euclid_43 : decode cX5_euclid 43 = .ok (.lconst 0, 1) := wtX5_euclid_25.2.2.2.2.2.2.2.2.2.1
theorem dX5_euclid_44 : decode cX5_euclid 44 = .ok (.goto 4, 3) := wtX5_euclid_25.2.2.2.2.2.2.2.2.2.2.1
theorem dX5_euclid_47 : decode cX5_euclid 47 = .ok (.lconst 1, 1) := wtX5_euclid_25.2.2.2.2.2.2.2.2.2.2.2.1
theorem dX5_euclid_48 : decode cX5_euclid 48 = .ok (.lstore 11, 2) := wtX5_euclid_25.2.2.2.2.2.2.2.2.2.2.2.2.1
theorem wtX5_euclid_50 : dwcj cX5_euclid 50 [(0, .lload 7, 2), (2, .lconst 0, 1), (3, .lcmp, 1), (4, .ifCond .eq 55, 3), (7, .lload 5, 2), (9, .lload 7, 2), (11, .invokestatic 37, 3), (14, .lstore 13, 2), (16, .lload 5, 2), (18, .lload 13, 2), (20, .lload 7, 2), (22, .invokestatic 41, 3)] := dw_all (l := [22, 7, 9, 148, 153, 0, 55, 22, 5, 22, 7, 184, 0, 37, 55, 13, 22, 5, 22, 13, 22, 7, 184, 0, 41]) (by decide +kernel)
theorem dX5_euclid_50 : decode cX5_euclid 50 = .ok (.lload 7, 2) := wtX5_euclid_50.1
theorem dX5_euclid_52 : decode cX5_euclid 52 = .ok (.lconst 0, 1) := wtX5_euclid_50.2.1
theorem dX5_euclid_53 : decode cX5_euclid 53 = .ok (.lcmp, 1) := wtX5_euclid_50.2.2.1
theorem dX5_euclid_54 : decode cX5_euclid 54 = .ok (.ifCond .eq 55, 3) := wtX5_euclid_50.2.2.2.1
theorem dX5_euclid_57 : decode cX5_euclid 57 = .ok (.lload 5, 2) := wtX5_euclid_50.2.2.2.2.1
theorem dX5_euclid_59 : decode cX5_euclid 59 = .ok (.lload 7, 2) := wtX5_euclid_50.2.2.2.2.2.1
theorem dX5_euclid_61 : decode cX5_euclid 61 = .ok (.invokestatic 37, 3) := wtX5_euclid_50.2.2.2.2.2.2.1
theorem dX5_euclid_64 : decode cX5_euclid 64 = .ok (.lstore 13, 2) := wtX5_euclid_50.2.2.2.2.2.2.2.1
theorem dX5_euclid_66 : decode cX5_euclid 66 = .ok (.lload 5, 2) := wtX5_euclid_50.2.2.2.2.2.2.2.2.1
theorem dX5_euclid_68 : decode cX5_euclid 68 = .ok (.lload 13, 2) := wtX5_euclid_50.2.2.2.2.2.2.2.2.2.1
theorem dX5_euclid_70 : decode cX5_euclid 70 = .ok (.lload 7, 2) := wtX5_euclid_50.2.2.2.2.2.2.2.2.2.2.1
theorem dX5_euclid_72 : decode cX5_euclid 72 = .ok (.invokestatic 41, 3) := wtX5_euclid_50.2.2.2.2.2.2.2.2.2.2.2.1
theorem wtX5_euclid_75 : dwcj cX5_euclid 75 [(0, .lxor, 1), (1, .lstore 15, 2), (3, .lload 7, 2), (5, .lstore 5, 2), (7, .lload 15, 2), (9, .lstore 7, 2), (11, .lload 9, 2), (13, .lload 13, 2), (15, .lload 11, 2), (17, .invokestatic 41, 3), (20, .lxor, 1), (21, .lstore 15, 2), (23, .lload 11, 2)] := dw_all (l := [131, 55, 15, 22, 7, 55, 5, 22, 15, 55, 7, 22, 9, 22, 13, 22, 11, 184, 0, 41, 131, 55, 15, 22, 11]) (by decide +kernel)
theorem dX5_euclid_75 : decode cX5_euclid 75 = .ok (.lxor, 1) := wtX5_euclid_75.1
theorem dX5_euclid_76 : decode cX5_euclid 76 = .ok (.lstore 15, 2) := wtX5_euclid_75.2.1
theorem dX5_euclid_78 : decode cX5_euclid 78 = .ok (.lload 7, 2) := wtX5_euclid_75.2.2.1
theorem dX5_euclid_80 : decode cX5_euclid 80 = .ok (.lstore 5, 2) := wtX5_euclid_75.2.2.2.1
theorem dX5_euclid_82 : decode cX5_euclid 82 = .ok (.lload 15, 2) := wtX5_euclid_75.2.2.2.2.1
theorem dX5_euclid_84 : decode cX5_euclid 84 = .ok (.lstore 7, 2) := wtX5_euclid_75.2.2.2.2.2.1
theorem dX5_euclid_86 : decode cX5_euclid 86 = .ok (.lload 9, 2) := wtX5_euclid_75.2.2.2.2.2.2.1
theorem dX5_euclid_88 : decode cX5_euclid 88 = .ok (.lload 13, 2) := wtX5_euclid_75.2.2.2.2.2.2.2.1
theorem dX5_euclid_90 : decode cX5_euclid 90 = .ok (.lload 11, 2) := wtX5_euclid_75.2.2.2.2.2.2.2.2.1
theorem dX5_euclid_92 : decode cX5_euclid 92 = .ok (.invokestatic 41, 3) := wtX5_euclid_75.2.2.2.2.2.2.2.2.2.1
theorem dX5_euclid_95 : decode cX5_euclid 95 = .ok (.lxor, 1) := wtX5_euclid_75.2.2.2.2.2.2.2.2.2.2.1
theorem dX5_euclid_96 : decode cX5_euclid 96 = .ok (.lstore 15, 2) := wtX5_euclid_75.2.2.2.2.2.2.2.2.2.2.2.1
theorem dX5_euclid_98 : decode cX5_euclid 98 = .ok (.lload 11, 2) := wtX5_euclid_75.2.2.2.2.2.2.2.2.2.2.2.2.1
theorem wtX5_euclid_100 : dwcj cX5_euclid 100 [(0, .lstore 9, 2), (2, .lload 15, 2), (4, .lstore 11, 2), (6, .goto (-56), 3), (9, .lload 9, 2), (11, .lreturn, 1)] := dw_all (l := [55, 9, 22, 15, 55, 11, 167, 255, 200, 22, 9, 173]) (by decide +kernel)
theorem dX5_euclid_100 : decode cX5_euclid 100 = .ok (.lstore 9, 2) := wtX5_euclid_100.1
theorem dX5_euclid_102 : decode cX5_euclid 102 = .ok (.lload 15, 2) := wtX5_euclid_100.2.1
theorem dX5_euclid_104 : decode cX5_euclid 104 = .ok (.lstore 11, 2) := wtX5_euclid_100.2.2.1
theorem dX5_euclid_106 : decode cX5_euclid 106 = .ok (.goto (-56), 3) := wtX5_euclid_100.2.2.2.1
theorem dX5_euclid_109 : decode cX5_euclid 109 = .ok (.lload 9, 2) := wtX5_euclid_100.2.2.2.2.1
theorem dX5_euclid_111 : decode cX5_euclid 111 = .ok (.lreturn, 1) := wtX5_euclid_100.2.2.2.2.2.1
theorem wtX5_derived_0 : dwcj cX5_derived 0 [(0, .lconst 0, 1), (1, .lstore_n 2, 1), (2, .iconst 1, 1), (3, .istore 4, 2), (5, .iload 4, 2), (7, .bipush 32, 2), (9, .if_icmp .gt 27, 3), (12, .lload_n 0, 1), (13, .iload 4, 2), (15, .invokestatic 25, 3), (18, .ifCond .eq 12, 3), (21, .lload_n 2, 1), (22, .lconst 1, 1), (23, .iload 4, 2)] := dw_all (l := [9, 65, 4, 54, 4, 21, 4, 16, 32, 163, 0, 27, 30, 21, 4, 184, 0, 25, 153, 0, 12, 32, 10, 21, 4]) (by decide +kernel)
theorem dX5_derived_0 : decode cX5_derived 0 = .ok (.lconst 0, 1) := wtX5_derived_0.1
theorem dX5_derived_1 : decode cX5_derived 1 = .ok (.lstore_n 2, 1) := wtX5_derived_0.2.1
theorem dX5_derived_2 : decode cX5_derived 2 = .ok (.iconst 1, 1) := wtX5_derived_0.2.2.1
theorem dX5_derived_3 : decode cX5_derived 3 = .ok (.istore 4, 2) := wtX5_derived_0.2.2.2.1
theorem dX5_derived_5 : decode cX5_derived 5 = .ok (.iload 4, 2) := wtX5_derived_0.2.2.2.2.1
theorem dX5_derived_7 : decode cX5_derived 7 = .ok (.bipush 32, 2) := wtX5_derived_0.2.2.2.2.2.1
theorem dX5_derived_9 : decode cX5_derived 9 = .ok (.if_icmp .gt 27, 3) := wtX5_derived_0.2.2.2.2.2.2.1
theorem dX5_derived_12 : decode cX5_derived 12 = .ok (.lload_n 0, 1) := wtX5_derived_0.2.2.2.2.2.2.2.1
theorem dX5_derived_13 : decode cX5_derived 13 = .ok (.iload 4, 2) := wtX5_derived_0.2.2.2.2.2.2.2.2.1
theorem dX5_derived_15 : decode cX5_derived 15 = .ok (.invokestatic 25, 3) := wtX5_derived_0.2.2.2.2.2.2.2.2.2.1
theorem dX5_derived_18 : decode cX5_derived 18 = .ok (.ifCond .eq 12, 3) := wtX5_derived_0.2.2.2.2.2.2.2.2.2.2.1
theorem dX5_derived_21 : decode cX5_derived 21 = .ok (.lload_n 2, 1) := wtX5_derived_0.2.2.2.2.2.2.2.2.2.2.2.1
theorem dX5_derived_22 : decode cX5_derived 22 = .ok (.lconst 1, 1) := wtX5_derived_0.2.2.2.2.2.2.2.2.2.2.2.2.1
theorem dX5_derived_23 : decode cX5_derived 23 = .ok (.iload 4, 2) := wtX5_derived_0.2.2.2.2.2.2.2.2.2.2.2.2.2.1
theorem wtX5_derived_25 : dwcj cX5_derived 25 [(0, .iconst 1, 1), (1, .isub, 1), (2, .lshl, 1), (3, .lor, 1), (4, .lstore_n 2, 1), (5, .iinc 4 2, 3), (8, .goto (-28), 3), (11, .lload_n 2, 1), (12, .lreturn, 1)] := dw_all (l := [4, 100, 121, 129, 65, 132, 4, 2, 167, 255, 228, 32, 173]) (by decide +kernel)
theorem dX5_derived_25 : decode cX5_derived 25 = .ok (.iconst 1, 1) := wtX5_derived_25.1
theorem dX5_derived_26 : decode cX5_derived 26 = .ok (.isub, 1) := wtX5_derived_25.2.1
theorem dX5_derived_27 : decode cX5_derived 27 = .ok (.lshl, 1) := wtX5_derived_25.2.2.1
theorem dX5_derived_28 : decode cX5_derived 28 = .ok (.lor, 1) := wtX5_derived_25.2.2.2.1
theorem dX5_derived_29 : decode cX5_derived 29 = .ok (.lstore_n 2, 1) := wtX5_derived_25.2.2.2.2.1
theorem dX5_derived_30 : decode cX5_derived 30 = .ok (.iinc 4 2, 3) := wtX5_derived_25.2.2.2.2.2.1
theorem dX5_derived_33 : decode cX5_derived 33 = .ok (.goto (-28), 3) := wtX5_derived_25.2.2.2.2.2.2.1
theorem dX5_derived_36 : decode cX5_derived 36 = .ok (.lload_n 2, 1) := wtX5_derived_25.2.2.2.2.2.2.2.1
theorem dX5_derived_37 : decode cX5_derived 37 = .ok (.lreturn, 1) := wtX5_derived_25.2.2.2.2.2.2.2.2.1
theorem wtX5_half_0 : dwcj cX5_half 0 [(0, .lconst 0, 1), (1, .lstore_n 2, 1), (2, .iconst 0, 1), (3, .istore 4, 2), (5, .iload 4, 2), (7, .bipush 32, 2), (9, .if_icmp .gt 27, 3), (12, .lload_n 0, 1), (13, .iload 4, 2), (15, .invokestatic 25, 3), (18, .ifCond .eq 12, 3), (21, .lload_n 2, 1), (22, .lconst 1, 1), (23, .iload 4, 2)] := dw_all (l := [9, 65, 3, 54, 4, 21, 4, 16, 32, 163, 0, 27, 30, 21, 4, 184, 0, 25, 153, 0, 12, 32, 10, 21, 4]) (by decide +kernel)
theorem dX5_half_0 : decode cX5_half 0 = .ok (.lconst 0, 1) := wtX5_half_0.1
theorem dX5_half_1 : decode cX5_half 1 = .ok (.lstore_n 2, 1) := wtX5_half_0.2.1
theorem dX5_half_2 : decode cX5_half 2 = .ok (.iconst 0, 1) := wtX5_half_0.2.2.1
theorem dX5_half_3 : decode cX5_half 3 = .ok (.istore 4, 2) := wtX5_half_0.2.2.2.1
theorem dX5_half_5 : decode cX5_half 5 = .ok (.iload 4, 2) := wtX5_half_0.2.2.2.2.1
theorem dX5_half_7 : decode cX5_half 7 = .ok (.bipush 32, 2) := wtX5_half_0.2.2.2.2.2.1
theorem dX5_half_9 : decode cX5_half 9 = .ok (.if_icmp .gt 27, 3) := wtX5_half_0.2.2.2.2.2.2.1
theorem dX5_half_12 : decode cX5_half 12 = .ok (.lload_n 0, 1) := wtX5_half_0.2.2.2.2.2.2.2.1
theorem dX5_half_13 : decode cX5_half 13 = .ok (.iload 4, 2) := wtX5_half_0.2.2.2.2.2.2.2.2.1
theorem dX5_half_15 : decode cX5_half 15 = .ok (.invokestatic 25, 3) := wtX5_half_0.2.2.2.2.2.2.2.2.2.1
theorem dX5_half_18 : decode cX5_half 18 = .ok (.ifCond .eq 12, 3) := wtX5_half_0.2.2.2.2.2.2.2.2.2.2.1
theorem dX5_half_21 : decode cX5_half 21 = .ok (.lload_n 2, 1) := wtX5_half_0.2.2.2.2.2.2.2.2.2.2.2.1
theorem dX5_half_22 : decode cX5_half 22 = .ok (.lconst 1, 1) := wtX5_half_0.2.2.2.2.2.2.2.2.2.2.2.2.1
theorem dX5_half_23 : decode cX5_half 23 = .ok (.iload 4, 2) := wtX5_half_0.2.2.2.2.2.2.2.2.2.2.2.2.2.1
theorem wtX5_half_25 : dwcj cX5_half 25 [(0, .iconst 2, 1), (1, .idiv, 1), (2, .lshl, 1), (3, .lor, 1), (4, .lstore_n 2, 1), (5, .iinc 4 2, 3), (8, .goto (-28), 3), (11, .lload_n 2, 1), (12, .lreturn, 1)] := dw_all (l := [5, 108, 121, 129, 65, 132, 4, 2, 167, 255, 228, 32, 173]) (by decide +kernel)
theorem dX5_half_25 : decode cX5_half 25 = .ok (.iconst 2, 1) := wtX5_half_25.1
theorem dX5_half_26 : decode cX5_half 26 = .ok (.idiv, 1) := wtX5_half_25.2.1
theorem dX5_half_27 : decode cX5_half 27 = .ok (.lshl, 1) := wtX5_half_25.2.2.1
theorem dX5_half_28 : decode cX5_half 28 = .ok (.lor, 1) := wtX5_half_25.2.2.2.1
theorem dX5_half_29 : decode cX5_half 29 = .ok (.lstore_n 2, 1) := wtX5_half_25.2.2.2.2.1
theorem dX5_half_30 : decode cX5_half 30 = .ok (.iinc 4 2, 3) := wtX5_half_25.2.2.2.2.2.1
theorem dX5_half_33 : decode cX5_half 33 = .ok (.goto (-28), 3) := wtX5_half_25.2.2.2.2.2.2.1
theorem dX5_half_36 : decode cX5_half 36 = .ok (.lload_n 2, 1) := wtX5_half_25.2.2.2.2.2.2.2.1
theorem dX5_half_37 : decode cX5_half 37 = .ok (.lreturn, 1) := wtX5_half_25.2.2.2.2.2.2.2.2.1
theorem wtX5_isIrreducible_0 : dwcj cX5_isIrreducible 0 [(0, .lload_n 0, 1), (1, .invokestatic 33, 3), (4, .istore_n 2, 1), (5, .iload_n 2, 1), (6, .iconst 1, 1), (7, .if_icmp .ge 5, 3), (10, .iconst 0, 1), (11, .ireturn, 1), (12, .ldc2_w 44, 3), (15, .lstore_n 3, 1), (16, .iconst 2, 1), (17, .lload_n 3, 1), (18, .invokestatic 33, 3), (21, .imul, 1), (22, .iload_n 2, 1), (23, .if_icmp .gt 22, 3)] := dw_all (l := [30, 184, 0, 33, 61, 28, 4, 162, 0, 5, 3, 172, 20, 0, 44, 66, 5, 33, 184, 0, 33, 104, 28, 163, 0, 22]) (by decide +kernel)
theorem dX5_isIrreducible_0 : decode cX5_isIrreducible 0 = .ok (.lload_n 0, 1) := wtX5_isIrreducible_0.1
theorem dX5_isIrreducible_1 : decode cX5_isIrreducible 1 = .ok (.invokestatic 33, 3) := wtX5_isIrreducible_0.2.1
theorem dX5_isIrreducible_4 : decode cX5_isIrreducible 4 = .ok (.istore_n 2, 1) := wtX5_isIrreducible_0.2.2.1
theorem dX5_isIrreducible_5 : decode cX5_isIrreducible 5 = .ok (.iload_n 2, 1) := wtX5_isIrreducible_0.2.2.2.1
theorem dX5_isIrreducible_6 : decode cX5_isIrreducible 6 = .ok (.iconst 1, 1) := wtX5_isIrreducible_0.2.2.2.2.1
theorem dX5_isIrreducible_7 : decode cX5_isIrreducible 7 = .ok (.if_icmp .ge 5, 3) := wtX5_isIrreducible_0.2.2.2.2.2.1
theorem dX5_isIrreducible_10 : decode cX5_isIrreducible 10 = .ok (.iconst 0, 1) := wtX5_isIrreducible_0.2.2.2.2.2.2.1
theorem dX5_isIrreducible_11 : decode cX5_isIrreducible 11 = .ok (.ireturn, 1) := wtX5_isIrreducible_0.2.2.2.2.2.2.2.1
theorem dX5_isIrreducible_12 : decode cX5_isIrreducible 12 = .ok (.ldc2_w 44, 3) := wtX5_isIrreducible_0.2.2.2.2.2.2.2.2.1
theorem dX5_isIrreducible_15 : decode cX5_isIrreducible 15 = .ok (.lstore_n 3, 1) := wtX5_isIrreducible_0.2.2.2.2.2.2.2.2.2.1
theorem dX5_isIrreducible_16 : decode cX5_isIrreducible 16 = .ok (.iconst 2, 1) := wtX5_isIrreducible_0.2.2.2.2.2.2.2.2.2.2.1
theorem dX5_isIrreducible_17 : decode cX5_isIrreducible 17 = .ok (.lload_n 3, 1) := wtX5_isIrreducible_0.2.2.2.2.2.2.2.2.2.2.2.1
theorem dX5_isIrreducible_18 : decode cX5_isIrreducible 18 = .ok (.invokestatic 33, 3) := wtX5_isIrreducible_0.2.2.2.2.2.2.2.2.2.2.2.2.1
theorem dX5_isIrreducible_21 : decode cX5_isIrreducible 21 = .ok (.imul, 1) := wtX5_isIrreducible_0.2.2.2.2.2.2.2.2.2.2.2.2.2.1
theorem dX5_isIrreducible_22 : decode cX5_isIrreducible 22 = .ok (.iload_n 2, 1) := wtX5_isIrreducible_0.2.2.2.2.2.2.2.2.2.2.2.2.2.2.1
theorem dX5_isIrreducible_23 : decode cX5_isIrreducible 23 = .ok (.if_icmp .gt 22, 3) := wtX5_isIrreducible_0.2.2.2.2.2.2.2.2.2.2.2.2.2.2.2.1
theorem wtX5_isIrreducible_26 : dwcj cX5_isIrreducible 26 [(0, .lload_n 0, 1), (1, .lload_n 3, 1), (2, .invokestatic 46, 3), (5, .lconst 0, 1), (6, .lcmp, 1), (7, .ifCond .ne 5, 3), (10, .iconst 0, 1), (11, .ireturn, 1), (12, .lload_n 3, 1), (13, .lconst 1, 1), (14, .ladd, 1), (15, .lstore_n 3, 1), (16, .goto (-26), 3), (19, .iconst 1, 1), (20, .ireturn, 1)] := dw_all (l := [30, 33, 184, 0, 46, 9, 148, 154, 0, 5, 3, 172, 33, 10, 97, 66, 167, 255, 230, 4, 172]) (by decide +kernel)
theorem dX5_isIrreducible_26 : decode cX5_isIrreducible 26 = .ok (.lload_n 0, 1) := wtX5_isIrreducible_26.1
theorem dX5_isIrreducible_27 : decode cX5_isIrreducible 27 = .ok (.lload_n 3, 1) := wtX5_isIrreducible_26.2.1
theorem dX5_isIrreducible_28 : decode cX5_isIrreducible 28 = .ok (.invokestatic 46, 3) := wtX5_isIrreducible_26.2.2.1
theorem dX5_isIrreducible_31 : decode cX5_isIrreducible 31 = .ok (.lconst 0, 1) := wtX5_isIrreducible_26.2.2.2.1
theorem dX5_isIrreducible_32 : decode cX5_isIrreducible 32 = .ok (.lcmp, 1) := wtX5_isIrreducible_26.2.2.2.2.1
theorem dX5_isIrreducible_33 : decode cX5_isIrreducible 33 = .ok (.ifCond .ne 5, 3) := wtX5_isIrreducible_26.2.2.2.2.2.1
theorem dX5_isIrreducible_36 : decode cX5_isIrreducible 36 = .ok (.iconst 0, 1) := wtX5_isIrreducible_26.2.2.2.2.2.2.1
theorem dX5_isIrreducible_37 : decode cX5_isIrreducible 37 = .ok (.ireturn, 1) := wtX5_isIrreducible_26.2.2.2.2.2.2.2.1
theorem dX5_isIrreducible_38 : decode cX5_isIrreducible 38 = .ok (.lload_n 3, 1) := wtX5_isIrreducible_26.2.2.2.2.2.2.2.2.1
theorem dX5_isIrreducible_39 : decode cX5_isIrreducible 39 = .ok (.lconst 1, 1) := wtX5_isIrreducible_26.2.2.2.2.2.2.2.2.2.1
theorem dX5_isIrreducible_40 : decode cX5_isIrreducible 40 = .ok (.ladd, 1) := wtX5_isIrreducible_26.2.2.2.2.2.2.2.2.2.2.1
theorem dX5_isIrreducible_41 : decode cX5_isIrreducible 41 = .ok (.lstore_n 3, 1) := wtX5_isIrreducible_26.2.2.2.2.2.2.2.2.2.2.2.1
theorem dX5_isIrreducible_42 : decode cX5_isIrreducible 42 = .ok (.goto (-26), 3) := wtX5_isIrreducible_26.2.2.2.2.2.2.2.2.2.2.2.2.1
theorem dX5_isIrreducible_45 : decode cX5_isIrreducible 45 = .ok (.iconst 1, 1) := wtX5_isIrreducible_26.2.2.2.2.2.2.2.2.2.2.2.2.2.1
theorem dX5_isIrreducible_46 : decode cX5_isIrreducible 46 = .ok (.ireturn, 1) := wtX5_isIrreducible_26.2.2.2.2.2.2.2.2.2.2.2.2.2.2.1
theorem wtX5_rankOf_0 : dwcj cX5_rankOf 0 [(0, .lload_n 0, 1), (1, .invokestatic 49, 3), (4, .ifCond .ne 5, 3), (7, .iconst (-1), 1), (8, .ireturn, 1), (9, .iconst 0, 1), (10, .istore_n 2, 1), (11, .lconst 1, 1), (12, .lload_n 0, 1), (13, .invokestatic 33, 3), (16, .lshl, 1), (17, .lstore_n 3, 1), (18, .lload_n 3, 1), (19, .lload_n 0, 1), (20, .lcmp, 1), (21, .ifCond .ge 20, 3)] := dw_all (l := [30, 184, 0, 49, 154, 0, 5, 2, 172, 3, 61, 10, 30, 184, 0, 33, 121, 66, 33, 30, 148, 156, 0, 20]) (by decide +kernel)
theorem dX5_rankOf_0 : decode cX5_rankOf 0 = .ok (.lload_n 0, 1) := wtX5_rankOf_0.1
theorem dX5_rankOf_1 : decode cX5_rankOf 1 = .ok (.invokestatic 49, 3) := wtX5_rankOf_0.2.1
theorem dX5_rankOf_4 : decode cX5_rankOf 4 = .ok (.ifCond .ne 5, 3) := wtX5_rankOf_0.2.2.1
theorem dX5_rankOf_7 : decode cX5_rankOf 7 = .ok (.iconst (-1), 1) := wtX5_rankOf_0.2.2.2.1
theorem dX5_rankOf_8 : decode cX5_rankOf 8 = .ok (.ireturn, 1) := wtX5_rankOf_0.2.2.2.2.1
theorem dX5_rankOf_9 : decode cX5_rankOf 9 = .ok (.iconst 0, 1) := wtX5_rankOf_0.2.2.2.2.2.1
theorem dX5_rankOf_10 : decode cX5_rankOf 10 = .ok (.istore_n 2, 1) := wtX5_rankOf_0.2.2.2.2.2.2.1
theorem dX5_rankOf_11 : decode cX5_rankOf 11 = .ok (.lconst 1, 1) := wtX5_rankOf_0.2.2.2.2.2.2.2.1
theorem dX5_rankOf_12 : decode cX5_rankOf 12 = .ok (.lload_n 0, 1) := wtX5_rankOf_0.2.2.2.2.2.2.2.2.1
theorem dX5_rankOf_13 : decode cX5_rankOf 13 = .ok (.invokestatic 33, 3) := wtX5_rankOf_0.2.2.2.2.2.2.2.2.2.1
theorem dX5_rankOf_16 : decode cX5_rankOf 16 = .ok (.lshl, 1) := wtX5_rankOf_0.2.2.2.2.2.2.2.2.2.2.1
theorem dX5_rankOf_17 : decode cX5_rankOf 17 = .ok (.lstore_n 3, 1) := wtX5_rankOf_0.2.2.2.2.2.2.2.2.2.2.2.1
theorem dX5_rankOf_18 : decode cX5_rankOf 18 = .ok (.lload_n 3, 1) := wtX5_rankOf_0.2.2.2.2.2.2.2.2.2.2.2.2.1
theorem dX5_rankOf_19 : decode cX5_rankOf 19 = .ok (.lload_n 0, 1) := wtX5_rankOf_0.2.2.2.2.2.2.2.2.2.2.2.2.2.1
theorem dX5_rankOf_20 : decode cX5_rankOf 20 = .ok (.lcmp, 1) := wtX5_rankOf_0.2.2.2.2.2.2.2.2.2.2.2.2.2.2.1
theorem dX5_rankOf_21 : decode cX5_rankOf 21 = .ok (.ifCond .ge 20, 3) := wtX5_rankOf_0.2.2.2.2.2.2.2.2.2.2.2.2.2.2.2.1
theorem wtX5_rankOf_24 : dwcj cX5_rankOf 24 [(0, .iload_n 2, 1), (1, .lload_n 3, 1), (2, .invokestatic 49, 3), (5, .invokestatic 29, 3), (8, .iadd, 1), (9, .istore_n 2, 1), (10, .lload_n 3, 1), (11, .lconst 1, 1), (12, .ladd, 1), (13, .lstore_n 3, 1), (14, .goto (-20), 3), (17, .iload_n 2, 1), (18, .ireturn, 1)] := dw_all (l := [28, 33, 184, 0, 49, 184, 0, 29, 96, 61, 33, 10, 97, 66, 167, 255, 236, 28, 172]) (by decide +kernel)
theorem dX5_rankOf_24 : decode cX5_rankOf 24 = .ok (.iload_n 2, 1) := wtX5_rankOf_24.1
theorem dX5_rankOf_25 : decode cX5_rankOf 25 = .ok (.lload_n 3, 1) := wtX5_rankOf_24.2.1
theorem dX5_rankOf_26 : decode cX5_rankOf 26 = .ok (.invokestatic 49, 3) := wtX5_rankOf_24.2.2.1
theorem dX5_rankOf_29 : decode cX5_rankOf 29 = .ok (.invokestatic 29, 3) := wtX5_rankOf_24.2.2.2.1
theorem dX5_rankOf_32 : decode cX5_rankOf 32 = .ok (.iadd, 1) := wtX5_rankOf_24.2.2.2.2.1
theorem dX5_rankOf_33 : decode cX5_rankOf 33 = .ok (.istore_n 2, 1) := wtX5_rankOf_24.2.2.2.2.2.1
theorem dX5_rankOf_34 : decode cX5_rankOf 34 = .ok (.lload_n 3, 1) := wtX5_rankOf_24.2.2.2.2.2.2.1
theorem dX5_rankOf_35 : decode cX5_rankOf 35 = .ok (.lconst 1, 1) := wtX5_rankOf_24.2.2.2.2.2.2.2.1
theorem dX5_rankOf_36 : decode cX5_rankOf 36 = .ok (.ladd, 1) := wtX5_rankOf_24.2.2.2.2.2.2.2.2.1
theorem dX5_rankOf_37 : decode cX5_rankOf 37 = .ok (.lstore_n 3, 1) := wtX5_rankOf_24.2.2.2.2.2.2.2.2.2.1
theorem dX5_rankOf_38 : decode cX5_rankOf 38 = .ok (.goto (-20), 3) := wtX5_rankOf_24.2.2.2.2.2.2.2.2.2.2.1
theorem dX5_rankOf_41 : decode cX5_rankOf 41 = .ok (.iload_n 2, 1) := wtX5_rankOf_24.2.2.2.2.2.2.2.2.2.2.2.1
theorem dX5_rankOf_42 : decode cX5_rankOf 42 = .ok (.ireturn, 1) := wtX5_rankOf_24.2.2.2.2.2.2.2.2.2.2.2.2.1
theorem wtX5_howMany_0 : dwcj cX5_howMany 0 [(0, .iconst 0, 1), (1, .istore_n 1, 1), (2, .lconst 1, 1), (3, .iload_n 0, 1), (4, .lshl, 1), (5, .lstore_n 2, 1), (6, .lload_n 2, 1), (7, .ldc2_w 44, 3), (10, .iload_n 0, 1), (11, .lshl, 1), (12, .lcmp, 1), (13, .ifCond .ge 20, 3), (16, .iload_n 1, 1), (17, .lload_n 2, 1), (18, .invokestatic 49, 3), (21, .invokestatic 29, 3)] := dw_all (l := [3, 60, 10, 26, 121, 65, 32, 20, 0, 44, 26, 121, 148, 156, 0, 20, 27, 32, 184, 0, 49, 184, 0, 29]) (by decide +kernel)
theorem dX5_howMany_0 : decode cX5_howMany 0 = .ok (.iconst 0, 1) := wtX5_howMany_0.1
theorem dX5_howMany_1 : decode cX5_howMany 1 = .ok (.istore_n 1, 1) := wtX5_howMany_0.2.1
theorem dX5_howMany_2 : decode cX5_howMany 2 = .ok (.lconst 1, 1) := wtX5_howMany_0.2.2.1
theorem dX5_howMany_3 : decode cX5_howMany 3 = .ok (.iload_n 0, 1) := wtX5_howMany_0.2.2.2.1
theorem dX5_howMany_4 : decode cX5_howMany 4 = .ok (.lshl, 1) := wtX5_howMany_0.2.2.2.2.1
theorem dX5_howMany_5 : decode cX5_howMany 5 = .ok (.lstore_n 2, 1) := wtX5_howMany_0.2.2.2.2.2.1
theorem dX5_howMany_6 : decode cX5_howMany 6 = .ok (.lload_n 2, 1) := wtX5_howMany_0.2.2.2.2.2.2.1
theorem dX5_howMany_7 : decode cX5_howMany 7 = .ok (.ldc2_w 44, 3) := wtX5_howMany_0.2.2.2.2.2.2.2.1
theorem dX5_howMany_10 : decode cX5_howMany 10 = .ok (.iload_n 0, 1) := wtX5_howMany_0.2.2.2.2.2.2.2.2.1
theorem dX5_howMany_11 : decode cX5_howMany 11 = .ok (.lshl, 1) := wtX5_howMany_0.2.2.2.2.2.2.2.2.2.1
theorem dX5_howMany_12 : decode cX5_howMany 12 = .ok (.lcmp, 1) := wtX5_howMany_0.2.2.2.2.2.2.2.2.2.2.1
theorem dX5_howMany_13 : decode cX5_howMany 13 = .ok (.ifCond .ge 20, 3) := wtX5_howMany_0.2.2.2.2.2.2.2.2.2.2.2.1
theorem dX5_howMany_16 : decode cX5_howMany 16 = .ok (.iload_n 1, 1) := wtX5_howMany_0.2.2.2.2.2.2.2.2.2.2.2.2.1
theorem dX5_howMany_17 : decode cX5_howMany 17 = .ok (.lload_n 2, 1) := wtX5_howMany_0.2.2.2.2.2.2.2.2.2.2.2.2.2.1
theorem dX5_howMany_18 : decode cX5_howMany 18 = .ok (.invokestatic 49, 3) := wtX5_howMany_0.2.2.2.2.2.2.2.2.2.2.2.2.2.2.1
theorem dX5_howMany_21 : decode cX5_howMany 21 = .ok (.invokestatic 29, 3) := wtX5_howMany_0.2.2.2.2.2.2.2.2.2.2.2.2.2.2.2.1
theorem wtX5_howMany_24 : dwcj cX5_howMany 24 [(0, .iadd, 1), (1, .istore_n 1, 1), (2, .lload_n 2, 1), (3, .lconst 1, 1), (4, .ladd, 1), (5, .lstore_n 2, 1), (6, .goto (-24), 3), (9, .iload_n 1, 1), (10, .ireturn, 1)] := dw_all (l := [96, 60, 32, 10, 97, 65, 167, 255, 232, 27, 172]) (by decide +kernel)
theorem dX5_howMany_24 : decode cX5_howMany 24 = .ok (.iadd, 1) := wtX5_howMany_24.1
theorem dX5_howMany_25 : decode cX5_howMany 25 = .ok (.istore_n 1, 1) := wtX5_howMany_24.2.1
theorem dX5_howMany_26 : decode cX5_howMany 26 = .ok (.lload_n 2, 1) := wtX5_howMany_24.2.2.1
theorem dX5_howMany_27 : decode cX5_howMany 27 = .ok (.lconst 1, 1) := wtX5_howMany_24.2.2.2.1
theorem dX5_howMany_28 : decode cX5_howMany 28 = .ok (.ladd, 1) := wtX5_howMany_24.2.2.2.2.1
theorem dX5_howMany_29 : decode cX5_howMany 29 = .ok (.lstore_n 2, 1) := wtX5_howMany_24.2.2.2.2.2.1
theorem dX5_howMany_30 : decode cX5_howMany 30 = .ok (.goto (-24), 3) := wtX5_howMany_24.2.2.2.2.2.2.1
theorem dX5_howMany_33 : decode cX5_howMany 33 = .ok (.iload_n 1, 1) := wtX5_howMany_24.2.2.2.2.2.2.2.1
theorem dX5_howMany_34 : decode cX5_howMany 34 = .ok (.ireturn, 1) := wtX5_howMany_24.2.2.2.2.2.2.2.2.1
theorem wtX5_lay_0 : dwcj cX5_lay 0 [(0, .aload_n 0, 1), (1, .getfield 7, 3), (4, .iload_n 1, 1), (5, .laload, 1), (6, .lload_n 2, 1), (7, .lcmp, 1), (8, .ifCond .eq 7, 3), (11, .iconst 1, 1), (12, .goto 4, 3), (15, .iconst 0, 1), (16, .invokestatic 29, 3), (19, .istore 4, 2), (21, .aload_n 0, 1), (22, .getfield 7, 3)] := dw_all (l := [42, 180, 0, 7, 27, 47, 32, 148, 153, 0, 7, 4, 167, 0, 4, 3, 184, 0, 29, 54, 4, 42, 180, 0, 7]) (by decide +kernel)
theorem dX5_lay_0 : decode cX5_lay 0 = .ok (.aload_n 0, 1) := wtX5_lay_0.1
theorem dX5_lay_1 : decode cX5_lay 1 = .ok (.getfield 7, 3) := wtX5_lay_0.2.1
theorem dX5_lay_4 : decode cX5_lay 4 = .ok (.iload_n 1, 1) := wtX5_lay_0.2.2.1
theorem dX5_lay_5 : decode cX5_lay 5 = .ok (.laload, 1) := wtX5_lay_0.2.2.2.1
theorem dX5_lay_6 : decode cX5_lay 6 = .ok (.lload_n 2, 1) := wtX5_lay_0.2.2.2.2.1
theorem dX5_lay_7 : decode cX5_lay 7 = .ok (.lcmp, 1) := wtX5_lay_0.2.2.2.2.2.1
theorem dX5_lay_8 : decode cX5_lay 8 = .ok (.ifCond .eq 7, 3) := wtX5_lay_0.2.2.2.2.2.2.1
theorem dX5_lay_11 : decode cX5_lay 11 = .ok (.iconst 1, 1) := wtX5_lay_0.2.2.2.2.2.2.2.1
theorem dX5_lay_12 : decode cX5_lay 12 = .ok (.goto 4, 3) := wtX5_lay_0.2.2.2.2.2.2.2.2.1
theorem dX5_lay_15 : decode cX5_lay 15 = .ok (.iconst 0, 1) := wtX5_lay_0.2.2.2.2.2.2.2.2.2.1
theorem dX5_lay_16 : decode cX5_lay 16 = .ok (.invokestatic 29, 3) := wtX5_lay_0.2.2.2.2.2.2.2.2.2.2.1
theorem dX5_lay_19 : decode cX5_lay 19 = .ok (.istore 4, 2) := wtX5_lay_0.2.2.2.2.2.2.2.2.2.2.2.1
theorem dX5_lay_21 : decode cX5_lay 21 = .ok (.aload_n 0, 1) := wtX5_lay_0.2.2.2.2.2.2.2.2.2.2.2.2.1
theorem dX5_lay_22 : decode cX5_lay 22 = .ok (.getfield 7, 3) := wtX5_lay_0.2.2.2.2.2.2.2.2.2.2.2.2.2.1
theorem wtX5_lay_25 : dwcj cX5_lay 25 [(0, .iload_n 1, 1), (1, .lload_n 2, 1), (2, .lastore, 1), (3, .aload_n 0, 1), (4, .dup, 1), (5, .getfield 53, 3), (8, .iconst 1, 1), (9, .iadd, 1), (10, .putfield 53, 3), (13, .iload 4, 2), (15, .ireturn, 1)] := dw_all (l := [27, 32, 80, 42, 89, 180, 0, 53, 4, 96, 181, 0, 53, 21, 4, 172]) (by decide +kernel)
theorem dX5_lay_25 : decode cX5_lay 25 = .ok (.iload_n 1, 1) := wtX5_lay_25.1
theorem dX5_lay_26 : decode cX5_lay 26 = .ok (.lload_n 2, 1) := wtX5_lay_25.2.1
theorem dX5_lay_27 : decode cX5_lay 27 = .ok (.lastore, 1) := wtX5_lay_25.2.2.1
theorem dX5_lay_28 : decode cX5_lay 28 = .ok (.aload_n 0, 1) := wtX5_lay_25.2.2.2.1
theorem dX5_lay_29 : decode cX5_lay 29 = .ok (.dup, 1) := wtX5_lay_25.2.2.2.2.1
theorem dX5_lay_30 : decode cX5_lay 30 = .ok (.getfield 53, 3) := wtX5_lay_25.2.2.2.2.2.1
theorem dX5_lay_33 : decode cX5_lay 33 = .ok (.iconst 1, 1) := wtX5_lay_25.2.2.2.2.2.2.1
theorem dX5_lay_34 : decode cX5_lay 34 = .ok (.iadd, 1) := wtX5_lay_25.2.2.2.2.2.2.2.1
theorem dX5_lay_35 : decode cX5_lay 35 = .ok (.putfield 53, 3) := wtX5_lay_25.2.2.2.2.2.2.2.2.1
theorem dX5_lay_38 : decode cX5_lay 38 = .ok (.iload 4, 2) := wtX5_lay_25.2.2.2.2.2.2.2.2.2.1
theorem dX5_lay_40 : decode cX5_lay 40 = .ok (.ireturn, 1) := wtX5_lay_25.2.2.2.2.2.2.2.2.2.2.1
theorem wtX5_no_0 : dwcj cX5_no 0 [(0, .aload_n 0, 1), (1, .dup, 1), (2, .getfield 56, 3), (5, .iconst 1, 1), (6, .iadd, 1), (7, .putfield 56, 3), (10, .bipush (-9), 2), (12, .ireturn, 1)] := dw_all (l := [42, 89, 180, 0, 56, 4, 96, 181, 0, 56, 16, 247, 172]) (by decide +kernel)
theorem dX5_no_0 : decode cX5_no 0 = .ok (.aload_n 0, 1) := wtX5_no_0.1
theorem dX5_no_1 : decode cX5_no 1 = .ok (.dup, 1) := wtX5_no_0.2.1
theorem dX5_no_2 : decode cX5_no 2 = .ok (.getfield 56, 3) := wtX5_no_0.2.2.1
theorem dX5_no_5 : decode cX5_no 5 = .ok (.iconst 1, 1) := wtX5_no_0.2.2.2.1
theorem dX5_no_6 : decode cX5_no 6 = .ok (.iadd, 1) := wtX5_no_0.2.2.2.2.1
theorem dX5_no_7 : decode cX5_no 7 = .ok (.putfield 56, 3) := wtX5_no_0.2.2.2.2.2.1
theorem dX5_no_10 : decode cX5_no 10 = .ok (.bipush (-9), 2) := wtX5_no_0.2.2.2.2.2.2.1
theorem dX5_no_12 : decode cX5_no 12 = .ok (.ireturn, 1) := wtX5_no_0.2.2.2.2.2.2.2.1
theorem wtX5_layIf_0 : dwcj cX5_layIf 0 [(0, .iload_n 1, 1), (1, .ifCond .eq 12, 3), (4, .aload_n 0, 1), (5, .iload_n 2, 1), (6, .lload_n 3, 1), (7, .invokevirtual 59, 3), (10, .goto 7, 3), (13, .aload_n 0, 1), (14, .invokevirtual 63, 3), (17, .ireturn, 1)] := dw_all (l := [27, 153, 0, 12, 42, 28, 33, 182, 0, 59, 167, 0, 7, 42, 182, 0, 63, 172]) (by decide +kernel)
theorem dX5_layIf_0 : decode cX5_layIf 0 = .ok (.iload_n 1, 1) := wtX5_layIf_0.1
theorem dX5_layIf_1 : decode cX5_layIf 1 = .ok (.ifCond .eq 12, 3) := wtX5_layIf_0.2.1
theorem dX5_layIf_4 : decode cX5_layIf 4 = .ok (.aload_n 0, 1) := wtX5_layIf_0.2.2.1
theorem dX5_layIf_5 : decode cX5_layIf 5 = .ok (.iload_n 2, 1) := wtX5_layIf_0.2.2.2.1
theorem dX5_layIf_6 : decode cX5_layIf 6 = .ok (.lload_n 3, 1) := wtX5_layIf_0.2.2.2.2.1
theorem dX5_layIf_7 : decode cX5_layIf 7 = .ok (.invokevirtual 59, 3) := wtX5_layIf_0.2.2.2.2.2.1
theorem dX5_layIf_10 : decode cX5_layIf 10 = .ok (.goto 7, 3) := wtX5_layIf_0.2.2.2.2.2.2.1
theorem dX5_layIf_13 : decode cX5_layIf 13 = .ok (.aload_n 0, 1) := wtX5_layIf_0.2.2.2.2.2.2.2.1
theorem dX5_layIf_14 : decode cX5_layIf 14 = .ok (.invokevirtual 63, 3) := wtX5_layIf_0.2.2.2.2.2.2.2.2.1
theorem dX5_layIf_17 : decode cX5_layIf 17 = .ok (.ireturn, 1) := wtX5_layIf_0.2.2.2.2.2.2.2.2.2.1
theorem wtX5_put_0 : dwcj cX5_put 0 [(0, .aload_n 0, 1), (1, .iload_n 1, 1), (2, .invokestatic 67, 3), (5, .iconst 1, 1), (6, .invokevirtual 71, 3), (9, .ifCond .eq 7, 3), (12, .iconst 0, 1), (13, .goto 14, 3), (16, .aload_n 0, 1), (17, .iload_n 1, 1), (18, .iload_n 2, 1), (19, .i2l, 1), (20, .ldc2_w 74, 3), (23, .land, 1)] := dw_all (l := [42, 27, 184, 0, 67, 4, 182, 0, 71, 153, 0, 7, 3, 167, 0, 14, 42, 27, 28, 133, 20, 0, 74, 127]) (by decide +kernel)
theorem dX5_put_0 : decode cX5_put 0 = .ok (.aload_n 0, 1) := wtX5_put_0.1
theorem dX5_put_1 : decode cX5_put 1 = .ok (.iload_n 1, 1) := wtX5_put_0.2.1
theorem dX5_put_2 : decode cX5_put 2 = .ok (.invokestatic 67, 3) := wtX5_put_0.2.2.1
theorem dX5_put_5 : decode cX5_put 5 = .ok (.iconst 1, 1) := wtX5_put_0.2.2.2.1
theorem dX5_put_6 : decode cX5_put 6 = .ok (.invokevirtual 71, 3) := wtX5_put_0.2.2.2.2.1
theorem dX5_put_9 : decode cX5_put 9 = .ok (.ifCond .eq 7, 3) := wtX5_put_0.2.2.2.2.2.1
theorem dX5_put_12 : decode cX5_put 12 = .ok (.iconst 0, 1) := wtX5_put_0.2.2.2.2.2.2.1
theorem dX5_put_13 : decode cX5_put 13 = .ok (.goto 14, 3) := wtX5_put_0.2.2.2.2.2.2.2.1
theorem dX5_put_16 : decode cX5_put 16 = .ok (.aload_n 0, 1) := wtX5_put_0.2.2.2.2.2.2.2.2.1
theorem dX5_put_17 : decode cX5_put 17 = .ok (.iload_n 1, 1) := wtX5_put_0.2.2.2.2.2.2.2.2.2.1
theorem dX5_put_18 : decode cX5_put 18 = .ok (.iload_n 2, 1) := wtX5_put_0.2.2.2.2.2.2.2.2.2.2.1
theorem dX5_put_19 : decode cX5_put 19 = .ok (.i2l, 1) := wtX5_put_0.2.2.2.2.2.2.2.2.2.2.2.1
theorem dX5_put_20 : decode cX5_put 20 = .ok (.ldc2_w 74, 3) := wtX5_put_0.2.2.2.2.2.2.2.2.2.2.2.2.1
theorem dX5_put_23 : decode cX5_put 23 = .ok (.land, 1) := wtX5_put_0.2.2.2.2.2.2.2.2.2.2.2.2.2.1
theorem wtX5_put_24 : dwcj cX5_put 24 [(0, .invokevirtual 59, 3), (3, .ireturn, 1)] := dw_all (l := [182, 0, 59, 172]) (by decide +kernel)
theorem dX5_put_24 : decode cX5_put 24 = .ok (.invokevirtual 59, 3) := wtX5_put_24.1
theorem dX5_put_27 : decode cX5_put 27 = .ok (.ireturn, 1) := wtX5_put_24.2.1
theorem wtX5_mono_0 : dwcj cX5_mono 0 [(0, .aload_n 0, 1), (1, .iload_n 1, 1), (2, .invokestatic 67, 3), (5, .iconst 1, 1), (6, .invokevirtual 71, 3), (9, .ifCond .ne 26, 3), (12, .aload_n 0, 1), (13, .iload_n 2, 1), (14, .iconst 0, 1), (15, .bipush 32, 2), (17, .invokestatic 21, 3), (20, .ifCond .ne 7, 3), (23, .iconst 1, 1)] := dw_all (l := [42, 27, 184, 0, 67, 4, 182, 0, 71, 154, 0, 26, 42, 28, 3, 16, 32, 184, 0, 21, 154, 0, 7, 4]) (by decide +kernel)
theorem dX5_mono_0 : decode cX5_mono 0 = .ok (.aload_n 0, 1) := wtX5_mono_0.1
theorem dX5_mono_1 : decode cX5_mono 1 = .ok (.iload_n 1, 1) := wtX5_mono_0.2.1
theorem dX5_mono_2 : decode cX5_mono 2 = .ok (.invokestatic 67, 3) := wtX5_mono_0.2.2.1
theorem dX5_mono_5 : decode cX5_mono 5 = .ok (.iconst 1, 1) := wtX5_mono_0.2.2.2.1
theorem dX5_mono_6 : decode cX5_mono 6 = .ok (.invokevirtual 71, 3) := wtX5_mono_0.2.2.2.2.1
theorem dX5_mono_9 : decode cX5_mono 9 = .ok (.ifCond .ne 26, 3) := wtX5_mono_0.2.2.2.2.2.1
theorem dX5_mono_12 : decode cX5_mono 12 = .ok (.aload_n 0, 1) := wtX5_mono_0.2.2.2.2.2.2.1
theorem dX5_mono_13 : decode cX5_mono 13 = .ok (.iload_n 2, 1) := wtX5_mono_0.2.2.2.2.2.2.2.1
theorem dX5_mono_14 : decode cX5_mono 14 = .ok (.iconst 0, 1) := wtX5_mono_0.2.2.2.2.2.2.2.2.1
theorem dX5_mono_15 : decode cX5_mono 15 = .ok (.bipush 32, 2) := wtX5_mono_0.2.2.2.2.2.2.2.2.2.1
theorem dX5_mono_17 : decode cX5_mono 17 = .ok (.invokestatic 21, 3) := wtX5_mono_0.2.2.2.2.2.2.2.2.2.2.1
theorem dX5_mono_20 : decode cX5_mono 20 = .ok (.ifCond .ne 7, 3) := wtX5_mono_0.2.2.2.2.2.2.2.2.2.2.2.1
theorem dX5_mono_23 : decode cX5_mono 23 = .ok (.iconst 1, 1) := wtX5_mono_0.2.2.2.2.2.2.2.2.2.2.2.2.1
theorem wtX5_mono_24 : dwcj cX5_mono 24 [(0, .goto 4, 3), (3, .iconst 0, 1), (4, .iconst 2, 1), (5, .invokevirtual 17, 3), (8, .ifCond .eq 7, 3), (11, .iconst 0, 1), (12, .goto 11, 3), (15, .aload_n 0, 1), (16, .iload_n 1, 1), (17, .lconst 1, 1), (18, .iload_n 2, 1), (19, .lshl, 1), (20, .invokevirtual 59, 3), (23, .ireturn, 1)] := dw_all (l := [167, 0, 4, 3, 5, 182, 0, 17, 153, 0, 7, 3, 167, 0, 11, 42, 27, 10, 28, 121, 182, 0, 59, 172]) (by decide +kernel)
theorem dX5_mono_24 : decode cX5_mono 24 = .ok (.goto 4, 3) := wtX5_mono_24.1
theorem dX5_mono_27 : decode cX5_mono 27 = .ok (.iconst 0, 1) := wtX5_mono_24.2.1
theorem dX5_mono_28 : decode cX5_mono 28 = .ok (.iconst 2, 1) := wtX5_mono_24.2.2.1
theorem dX5_mono_29 : decode cX5_mono 29 = .ok (.invokevirtual 17, 3) := wtX5_mono_24.2.2.2.1
theorem dX5_mono_32 : decode cX5_mono 32 = .ok (.ifCond .eq 7, 3) := wtX5_mono_24.2.2.2.2.1
theorem dX5_mono_35 : decode cX5_mono 35 = .ok (.iconst 0, 1) := wtX5_mono_24.2.2.2.2.2.1
theorem dX5_mono_36 : decode cX5_mono 36 = .ok (.goto 11, 3) := wtX5_mono_24.2.2.2.2.2.2.1
theorem dX5_mono_39 : decode cX5_mono 39 = .ok (.aload_n 0, 1) := wtX5_mono_24.2.2.2.2.2.2.2.1
theorem dX5_mono_40 : decode cX5_mono 40 = .ok (.iload_n 1, 1) := wtX5_mono_24.2.2.2.2.2.2.2.2.1
theorem dX5_mono_41 : decode cX5_mono 41 = .ok (.lconst 1, 1) := wtX5_mono_24.2.2.2.2.2.2.2.2.2.1
theorem dX5_mono_42 : decode cX5_mono 42 = .ok (.iload_n 2, 1) := wtX5_mono_24.2.2.2.2.2.2.2.2.2.2.1
theorem dX5_mono_43 : decode cX5_mono 43 = .ok (.lshl, 1) := wtX5_mono_24.2.2.2.2.2.2.2.2.2.2.2.1
theorem dX5_mono_44 : decode cX5_mono 44 = .ok (.invokevirtual 59, 3) := wtX5_mono_24.2.2.2.2.2.2.2.2.2.2.2.2.1
theorem dX5_mono_47 : decode cX5_mono 47 = .ok (.ireturn, 1) := wtX5_mono_24.2.2.2.2.2.2.2.2.2.2.2.2.2.1
theorem wtX5_digit_0 : dwcj cX5_digit 0 [(0, .aload_n 0, 1), (1, .iload_n 1, 1), (2, .invokestatic 67, 3), (5, .iconst 1, 1), (6, .invokevirtual 71, 3), (9, .ifCond .ne 26, 3), (12, .aload_n 0, 1), (13, .iload_n 2, 1), (14, .iconst 0, 1), (15, .bipush 32, 2), (17, .invokestatic 21, 3), (20, .ifCond .ne 7, 3), (23, .iconst 1, 1)] := dw_all (l := [42, 27, 184, 0, 67, 4, 182, 0, 71, 154, 0, 26, 42, 28, 3, 16, 32, 184, 0, 21, 154, 0, 7, 4]) (by decide +kernel)
theorem dX5_digit_0 : decode cX5_digit 0 = .ok (.aload_n 0, 1) := wtX5_digit_0.1
theorem dX5_digit_1 : decode cX5_digit 1 = .ok (.iload_n 1, 1) := wtX5_digit_0.2.1
theorem dX5_digit_2 : decode cX5_digit 2 = .ok (.invokestatic 67, 3) := wtX5_digit_0.2.2.1
theorem dX5_digit_5 : decode cX5_digit 5 = .ok (.iconst 1, 1) := wtX5_digit_0.2.2.2.1
theorem dX5_digit_6 : decode cX5_digit 6 = .ok (.invokevirtual 71, 3) := wtX5_digit_0.2.2.2.2.1
theorem dX5_digit_9 : decode cX5_digit 9 = .ok (.ifCond .ne 26, 3) := wtX5_digit_0.2.2.2.2.2.1
theorem dX5_digit_12 : decode cX5_digit 12 = .ok (.aload_n 0, 1) := wtX5_digit_0.2.2.2.2.2.2.1
theorem dX5_digit_13 : decode cX5_digit 13 = .ok (.iload_n 2, 1) := wtX5_digit_0.2.2.2.2.2.2.2.1
theorem dX5_digit_14 : decode cX5_digit 14 = .ok (.iconst 0, 1) := wtX5_digit_0.2.2.2.2.2.2.2.2.1
theorem dX5_digit_15 : decode cX5_digit 15 = .ok (.bipush 32, 2) := wtX5_digit_0.2.2.2.2.2.2.2.2.2.1
theorem dX5_digit_17 : decode cX5_digit 17 = .ok (.invokestatic 21, 3) := wtX5_digit_0.2.2.2.2.2.2.2.2.2.2.1
theorem dX5_digit_20 : decode cX5_digit 20 = .ok (.ifCond .ne 7, 3) := wtX5_digit_0.2.2.2.2.2.2.2.2.2.2.2.1
theorem dX5_digit_23 : decode cX5_digit 23 = .ok (.iconst 1, 1) := wtX5_digit_0.2.2.2.2.2.2.2.2.2.2.2.2.1
theorem wtX5_digit_24 : dwcj cX5_digit 24 [(0, .goto 4, 3), (3, .iconst 0, 1), (4, .iconst 2, 1), (5, .invokevirtual 17, 3), (8, .ifCond .eq 5, 3), (11, .iconst 0, 1), (12, .ireturn, 1), (13, .aload_n 0, 1), (14, .getfield 7, 3), (17, .iload_n 1, 1), (18, .laload, 1), (19, .iload_n 2, 1), (20, .invokestatic 25, 3), (23, .istore 4, 2)] := dw_all (l := [167, 0, 4, 3, 5, 182, 0, 17, 153, 0, 5, 3, 172, 42, 180, 0, 7, 27, 47, 28, 184, 0, 25, 54, 4]) (by decide +kernel)
theorem dX5_digit_24 : decode cX5_digit 24 = .ok (.goto 4, 3) := wtX5_digit_24.1
theorem dX5_digit_27 : decode cX5_digit 27 = .ok (.iconst 0, 1) := wtX5_digit_24.2.1
theorem dX5_digit_28 : decode cX5_digit 28 = .ok (.iconst 2, 1) := wtX5_digit_24.2.2.1
theorem dX5_digit_29 : decode cX5_digit 29 = .ok (.invokevirtual 17, 3) := wtX5_digit_24.2.2.2.1
theorem dX5_digit_32 : decode cX5_digit 32 = .ok (.ifCond .eq 5, 3) := wtX5_digit_24.2.2.2.2.1
theorem dX5_digit_35 : decode cX5_digit 35 = .ok (.iconst 0, 1) := wtX5_digit_24.2.2.2.2.2.1
theorem dX5_digit_36 : decode cX5_digit 36 = .ok (.ireturn, 1) := wtX5_digit_24.2.2.2.2.2.2.1
theorem dX5_digit_37 : decode cX5_digit 37 = .ok (.aload_n 0, 1) := wtX5_digit_24.2.2.2.2.2.2.2.1
theorem dX5_digit_38 : decode cX5_digit 38 = .ok (.getfield 7, 3) := wtX5_digit_24.2.2.2.2.2.2.2.2.1
theorem dX5_digit_41 : decode cX5_digit 41 = .ok (.iload_n 1, 1) := wtX5_digit_24.2.2.2.2.2.2.2.2.2.1
theorem dX5_digit_42 : decode cX5_digit 42 = .ok (.laload, 1) := wtX5_digit_24.2.2.2.2.2.2.2.2.2.2.1
theorem dX5_digit_43 : decode cX5_digit 43 = .ok (.iload_n 2, 1) := wtX5_digit_24.2.2.2.2.2.2.2.2.2.2.2.1
theorem dX5_digit_44 : decode cX5_digit 44 = .ok (.invokestatic 25, 3) := wtX5_digit_24.2.2.2.2.2.2.2.2.2.2.2.2.1
theorem dX5_digit_47 : decode cX5_digit 47 = .ok (.istore 4, 2) := wtX5_digit_24.2.2.2.2.2.2.2.2.2.2.2.2.2.1
theorem wtX5_digit_49 : dwcj cX5_digit 49 [(0, .aload_n 0, 1), (1, .iload_n 1, 1), (2, .iload 4, 2), (4, .iload_n 3, 1), (5, .if_icmp .ne 12, 3), (8, .aload_n 0, 1), (9, .getfield 7, 3), (12, .iload_n 1, 1), (13, .laload, 1), (14, .goto 13, 3), (17, .aload_n 0, 1), (18, .getfield 7, 3), (21, .iload_n 1, 1), (22, .laload, 1), (23, .lconst 1, 1)] := dw_all (l := [42, 27, 21, 4, 29, 160, 0, 12, 42, 180, 0, 7, 27, 47, 167, 0, 13, 42, 180, 0, 7, 27, 47, 10]) (by decide +kernel)
theorem dX5_digit_49 : decode cX5_digit 49 = .ok (.aload_n 0, 1) := wtX5_digit_49.1
theorem dX5_digit_50 : decode cX5_digit 50 = .ok (.iload_n 1, 1) := wtX5_digit_49.2.1
theorem dX5_digit_51 : decode cX5_digit 51 = .ok (.iload 4, 2) := wtX5_digit_49.2.2.1
theorem dX5_digit_53 : decode cX5_digit 53 = .ok (.iload_n 3, 1) := wtX5_digit_49.2.2.2.1
theorem dX5_digit_54 : decode cX5_digit 54 = .ok (.if_icmp .ne 12, 3) := wtX5_digit_49.2.2.2.2.1
theorem dX5_digit_57 : decode cX5_digit 57 = .ok (.aload_n 0, 1) := wtX5_digit_49.2.2.2.2.2.1
theorem dX5_digit_58 : decode cX5_digit 58 = .ok (.getfield 7, 3) := wtX5_digit_49.2.2.2.2.2.2.1
theorem dX5_digit_61 : decode cX5_digit 61 = .ok (.iload_n 1, 1) := wtX5_digit_49.2.2.2.2.2.2.2.1
theorem dX5_digit_62 : decode cX5_digit 62 = .ok (.laload, 1) := wtX5_digit_49.2.2.2.2.2.2.2.2.1
theorem dX5_digit_63 : decode cX5_digit 63 = .ok (.goto 13, 3) := wtX5_digit_49.2.2.2.2.2.2.2.2.2.1
theorem dX5_digit_66 : decode cX5_digit 66 = .ok (.aload_n 0, 1) := wtX5_digit_49.2.2.2.2.2.2.2.2.2.2.1
theorem dX5_digit_67 : decode cX5_digit 67 = .ok (.getfield 7, 3) := wtX5_digit_49.2.2.2.2.2.2.2.2.2.2.2.1
theorem dX5_digit_70 : decode cX5_digit 70 = .ok (.iload_n 1, 1) := wtX5_digit_49.2.2.2.2.2.2.2.2.2.2.2.2.1
theorem dX5_digit_71 : decode cX5_digit 71 = .ok (.laload, 1) := wtX5_digit_49.2.2.2.2.2.2.2.2.2.2.2.2.2.1
theorem dX5_digit_72 : decode cX5_digit 72 = .ok (.lconst 1, 1) := wtX5_digit_49.2.2.2.2.2.2.2.2.2.2.2.2.2.2.1
theorem wtX5_digit_73 : dwcj cX5_digit 73 [(0, .iload_n 2, 1), (1, .lshl, 1), (2, .lxor, 1), (3, .invokevirtual 59, 3), (6, .pop, 1), (7, .iload 4, 2), (9, .ireturn, 1)] := dw_all (l := [28, 121, 131, 182, 0, 59, 87, 21, 4, 172]) (by decide +kernel)
theorem dX5_digit_73 : decode cX5_digit 73 = .ok (.iload_n 2, 1) := wtX5_digit_73.1
theorem dX5_digit_74 : decode cX5_digit 74 = .ok (.lshl, 1) := wtX5_digit_73.2.1
theorem dX5_digit_75 : decode cX5_digit 75 = .ok (.lxor, 1) := wtX5_digit_73.2.2.1
theorem dX5_digit_76 : decode cX5_digit 76 = .ok (.invokevirtual 59, 3) := wtX5_digit_73.2.2.2.1
theorem dX5_digit_79 : decode cX5_digit 79 = .ok (.pop, 1) := wtX5_digit_73.2.2.2.2.1
theorem dX5_digit_80 : decode cX5_digit 80 = .ok (.iload 4, 2) := wtX5_digit_73.2.2.2.2.2.1
theorem dX5_digit_82 : decode cX5_digit 82 = .ok (.ireturn, 1) := wtX5_digit_73.2.2.2.2.2.2.1
theorem wtX5_flip_0 : dwcj cX5_flip 0 [(0, .aload_n 0, 1), (1, .iload_n 1, 1), (2, .invokestatic 67, 3), (5, .iconst 1, 1), (6, .invokevirtual 71, 3), (9, .ifCond .ne 26, 3), (12, .aload_n 0, 1), (13, .iload_n 2, 1), (14, .iconst 0, 1), (15, .bipush 32, 2), (17, .invokestatic 21, 3), (20, .ifCond .ne 7, 3), (23, .iconst 1, 1)] := dw_all (l := [42, 27, 184, 0, 67, 4, 182, 0, 71, 154, 0, 26, 42, 28, 3, 16, 32, 184, 0, 21, 154, 0, 7, 4]) (by decide +kernel)
theorem dX5_flip_0 : decode cX5_flip 0 = .ok (.aload_n 0, 1) := wtX5_flip_0.1
theorem dX5_flip_1 : decode cX5_flip 1 = .ok (.iload_n 1, 1) := wtX5_flip_0.2.1
theorem dX5_flip_2 : decode cX5_flip 2 = .ok (.invokestatic 67, 3) := wtX5_flip_0.2.2.1
theorem dX5_flip_5 : decode cX5_flip 5 = .ok (.iconst 1, 1) := wtX5_flip_0.2.2.2.1
theorem dX5_flip_6 : decode cX5_flip 6 = .ok (.invokevirtual 71, 3) := wtX5_flip_0.2.2.2.2.1
theorem dX5_flip_9 : decode cX5_flip 9 = .ok (.ifCond .ne 26, 3) := wtX5_flip_0.2.2.2.2.2.1
theorem dX5_flip_12 : decode cX5_flip 12 = .ok (.aload_n 0, 1) := wtX5_flip_0.2.2.2.2.2.2.1
theorem dX5_flip_13 : decode cX5_flip 13 = .ok (.iload_n 2, 1) := wtX5_flip_0.2.2.2.2.2.2.2.1
theorem dX5_flip_14 : decode cX5_flip 14 = .ok (.iconst 0, 1) := wtX5_flip_0.2.2.2.2.2.2.2.2.1
theorem dX5_flip_15 : decode cX5_flip 15 = .ok (.bipush 32, 2) := wtX5_flip_0.2.2.2.2.2.2.2.2.2.1
theorem dX5_flip_17 : decode cX5_flip 17 = .ok (.invokestatic 21, 3) := wtX5_flip_0.2.2.2.2.2.2.2.2.2.2.1
theorem dX5_flip_20 : decode cX5_flip 20 = .ok (.ifCond .ne 7, 3) := wtX5_flip_0.2.2.2.2.2.2.2.2.2.2.2.1
theorem dX5_flip_23 : decode cX5_flip 23 = .ok (.iconst 1, 1) := wtX5_flip_0.2.2.2.2.2.2.2.2.2.2.2.2.1
theorem wtX5_flip_24 : dwcj cX5_flip 24 [(0, .goto 4, 3), (3, .iconst 0, 1), (4, .iconst 2, 1), (5, .invokevirtual 17, 3), (8, .ifCond .eq 5, 3), (11, .iconst 0, 1), (12, .ireturn, 1), (13, .aload_n 0, 1), (14, .iload_n 1, 1), (15, .aload_n 0, 1), (16, .getfield 7, 3), (19, .iload_n 1, 1), (20, .laload, 1), (21, .lconst 1, 1), (22, .iload_n 2, 1), (23, .lshl, 1)] := dw_all (l := [167, 0, 4, 3, 5, 182, 0, 17, 153, 0, 5, 3, 172, 42, 27, 42, 180, 0, 7, 27, 47, 10, 28, 121]) (by decide +kernel)
theorem dX5_flip_24 : decode cX5_flip 24 = .ok (.goto 4, 3) := wtX5_flip_24.1
theorem dX5_flip_27 : decode cX5_flip 27 = .ok (.iconst 0, 1) := wtX5_flip_24.2.1
theorem dX5_flip_28 : decode cX5_flip 28 = .ok (.iconst 2, 1) := wtX5_flip_24.2.2.1
theorem dX5_flip_29 : decode cX5_flip 29 = .ok (.invokevirtual 17, 3) := wtX5_flip_24.2.2.2.1
theorem dX5_flip_32 : decode cX5_flip 32 = .ok (.ifCond .eq 5, 3) := wtX5_flip_24.2.2.2.2.1
theorem dX5_flip_35 : decode cX5_flip 35 = .ok (.iconst 0, 1) := wtX5_flip_24.2.2.2.2.2.1
theorem dX5_flip_36 : decode cX5_flip 36 = .ok (.ireturn, 1) := wtX5_flip_24.2.2.2.2.2.2.1
theorem dX5_flip_37 : decode cX5_flip 37 = .ok (.aload_n 0, 1) := wtX5_flip_24.2.2.2.2.2.2.2.1
theorem dX5_flip_38 : decode cX5_flip 38 = .ok (.iload_n 1, 1) := wtX5_flip_24.2.2.2.2.2.2.2.2.1
theorem dX5_flip_39 : decode cX5_flip 39 = .ok (.aload_n 0, 1) := wtX5_flip_24.2.2.2.2.2.2.2.2.2.1
theorem dX5_flip_40 : decode cX5_flip 40 = .ok (.getfield 7, 3) := wtX5_flip_24.2.2.2.2.2.2.2.2.2.2.1
theorem dX5_flip_43 : decode cX5_flip 43 = .ok (.iload_n 1, 1) := wtX5_flip_24.2.2.2.2.2.2.2.2.2.2.2.1
theorem dX5_flip_44 : decode cX5_flip 44 = .ok (.laload, 1) := wtX5_flip_24.2.2.2.2.2.2.2.2.2.2.2.2.1
theorem dX5_flip_45 : decode cX5_flip 45 = .ok (.lconst 1, 1) := wtX5_flip_24.2.2.2.2.2.2.2.2.2.2.2.2.2.1
theorem dX5_flip_46 : decode cX5_flip 46 = .ok (.iload_n 2, 1) := wtX5_flip_24.2.2.2.2.2.2.2.2.2.2.2.2.2.2.1
theorem dX5_flip_47 : decode cX5_flip 47 = .ok (.lshl, 1) := wtX5_flip_24.2.2.2.2.2.2.2.2.2.2.2.2.2.2.2.1
theorem wtX5_flip_48 : dwcj cX5_flip 48 [(0, .lxor, 1), (1, .invokevirtual 59, 3), (4, .pop, 1), (5, .aload_n 0, 1), (6, .getfield 7, 3), (9, .iload_n 1, 1), (10, .laload, 1), (11, .iload_n 2, 1), (12, .invokestatic 25, 3), (15, .ireturn, 1)] := dw_all (l := [131, 182, 0, 59, 87, 42, 180, 0, 7, 27, 47, 28, 184, 0, 25, 172]) (by decide +kernel)
theorem dX5_flip_48 : decode cX5_flip 48 = .ok (.lxor, 1) := wtX5_flip_48.1
theorem dX5_flip_49 : decode cX5_flip 49 = .ok (.invokevirtual 59, 3) := wtX5_flip_48.2.1
theorem dX5_flip_52 : decode cX5_flip 52 = .ok (.pop, 1) := wtX5_flip_48.2.2.1
theorem dX5_flip_53 : decode cX5_flip 53 = .ok (.aload_n 0, 1) := wtX5_flip_48.2.2.2.1
theorem dX5_flip_54 : decode cX5_flip 54 = .ok (.getfield 7, 3) := wtX5_flip_48.2.2.2.2.1
theorem dX5_flip_57 : decode cX5_flip 57 = .ok (.iload_n 1, 1) := wtX5_flip_48.2.2.2.2.2.1
theorem dX5_flip_58 : decode cX5_flip 58 = .ok (.laload, 1) := wtX5_flip_48.2.2.2.2.2.2.1
theorem dX5_flip_59 : decode cX5_flip 59 = .ok (.iload_n 2, 1) := wtX5_flip_48.2.2.2.2.2.2.2.1
theorem dX5_flip_60 : decode cX5_flip 60 = .ok (.invokestatic 25, 3) := wtX5_flip_48.2.2.2.2.2.2.2.2.1
theorem dX5_flip_63 : decode cX5_flip 63 = .ok (.ireturn, 1) := wtX5_flip_48.2.2.2.2.2.2.2.2.2.1
theorem wtX5_copy_0 : dwcj cX5_copy 0 [(0, .aload_n 0, 1), (1, .iload_n 1, 1), (2, .invokestatic 67, 3), (5, .ifCond .ne 10, 3), (8, .iload_n 2, 1), (9, .invokestatic 67, 3), (12, .ifCond .eq 7, 3), (15, .iconst 1, 1), (16, .goto 4, 3), (19, .iconst 0, 1), (20, .iconst 1, 1), (21, .invokevirtual 71, 3)] := dw_all (l := [42, 27, 184, 0, 67, 154, 0, 10, 28, 184, 0, 67, 153, 0, 7, 4, 167, 0, 4, 3, 4, 182, 0, 71]) (by decide +kernel)
theorem dX5_copy_0 : decode cX5_copy 0 = .ok (.aload_n 0, 1) := wtX5_copy_0.1
theorem dX5_copy_1 : decode cX5_copy 1 = .ok (.iload_n 1, 1) := wtX5_copy_0.2.1
theorem dX5_copy_2 : decode cX5_copy 2 = .ok (.invokestatic 67, 3) := wtX5_copy_0.2.2.1
theorem dX5_copy_5 : decode cX5_copy 5 = .ok (.ifCond .ne 10, 3) := wtX5_copy_0.2.2.2.1
theorem dX5_copy_8 : decode cX5_copy 8 = .ok (.iload_n 2, 1) := wtX5_copy_0.2.2.2.2.1
theorem dX5_copy_9 : decode cX5_copy 9 = .ok (.invokestatic 67, 3) := wtX5_copy_0.2.2.2.2.2.1
theorem dX5_copy_12 : decode cX5_copy 12 = .ok (.ifCond .eq 7, 3) := wtX5_copy_0.2.2.2.2.2.2.1
theorem dX5_copy_15 : decode cX5_copy 15 = .ok (.iconst 1, 1) := wtX5_copy_0.2.2.2.2.2.2.2.1
theorem dX5_copy_16 : decode cX5_copy 16 = .ok (.goto 4, 3) := wtX5_copy_0.2.2.2.2.2.2.2.2.1
theorem dX5_copy_19 : decode cX5_copy 19 = .ok (.iconst 0, 1) := wtX5_copy_0.2.2.2.2.2.2.2.2.2.1
theorem dX5_copy_20 : decode cX5_copy 20 = .ok (.iconst 1, 1) := wtX5_copy_0.2.2.2.2.2.2.2.2.2.2.1
theorem dX5_copy_21 : decode cX5_copy 21 = .ok (.invokevirtual 71, 3) := wtX5_copy_0.2.2.2.2.2.2.2.2.2.2.2.1
theorem wtX5_copy_24 : dwcj cX5_copy 24 [(0, .ifCond .eq 7, 3), (3, .iconst 0, 1), (4, .goto 14, 3), (7, .aload_n 0, 1), (8, .iload_n 2, 1), (9, .aload_n 0, 1), (10, .getfield 7, 3), (13, .iload_n 1, 1), (14, .laload, 1), (15, .invokevirtual 59, 3), (18, .ireturn, 1)] := dw_all (l := [153, 0, 7, 3, 167, 0, 14, 42, 28, 42, 180, 0, 7, 27, 47, 182, 0, 59, 172]) (by decide +kernel)
theorem dX5_copy_24 : decode cX5_copy 24 = .ok (.ifCond .eq 7, 3) := wtX5_copy_24.1
theorem dX5_copy_27 : decode cX5_copy 27 = .ok (.iconst 0, 1) := wtX5_copy_24.2.1
theorem dX5_copy_28 : decode cX5_copy 28 = .ok (.goto 14, 3) := wtX5_copy_24.2.2.1
theorem dX5_copy_31 : decode cX5_copy 31 = .ok (.aload_n 0, 1) := wtX5_copy_24.2.2.2.1
theorem dX5_copy_32 : decode cX5_copy 32 = .ok (.iload_n 2, 1) := wtX5_copy_24.2.2.2.2.1
theorem dX5_copy_33 : decode cX5_copy 33 = .ok (.aload_n 0, 1) := wtX5_copy_24.2.2.2.2.2.1
theorem dX5_copy_34 : decode cX5_copy 34 = .ok (.getfield 7, 3) := wtX5_copy_24.2.2.2.2.2.2.1
theorem dX5_copy_37 : decode cX5_copy 37 = .ok (.iload_n 1, 1) := wtX5_copy_24.2.2.2.2.2.2.2.1
theorem dX5_copy_38 : decode cX5_copy 38 = .ok (.laload, 1) := wtX5_copy_24.2.2.2.2.2.2.2.2.1
theorem dX5_copy_39 : decode cX5_copy 39 = .ok (.invokevirtual 59, 3) := wtX5_copy_24.2.2.2.2.2.2.2.2.2.1
theorem dX5_copy_42 : decode cX5_copy 42 = .ok (.ireturn, 1) := wtX5_copy_24.2.2.2.2.2.2.2.2.2.2.1
theorem wtX5_swap_0 : dwcj cX5_swap 0 [(0, .aload_n 0, 1), (1, .iload_n 1, 1), (2, .invokestatic 67, 3), (5, .ifCond .ne 10, 3), (8, .iload_n 2, 1), (9, .invokestatic 67, 3), (12, .ifCond .eq 7, 3), (15, .iconst 1, 1), (16, .goto 4, 3), (19, .iconst 0, 1), (20, .iconst 1, 1), (21, .invokevirtual 71, 3)] := dw_all (l := [42, 27, 184, 0, 67, 154, 0, 10, 28, 184, 0, 67, 153, 0, 7, 4, 167, 0, 4, 3, 4, 182, 0, 71]) (by decide +kernel)
theorem dX5_swap_0 : decode cX5_swap 0 = .ok (.aload_n 0, 1) := wtX5_swap_0.1
theorem dX5_swap_1 : decode cX5_swap 1 = .ok (.iload_n 1, 1) := wtX5_swap_0.2.1
theorem dX5_swap_2 : decode cX5_swap 2 = .ok (.invokestatic 67, 3) := wtX5_swap_0.2.2.1
theorem dX5_swap_5 : decode cX5_swap 5 = .ok (.ifCond .ne 10, 3) := wtX5_swap_0.2.2.2.1
theorem dX5_swap_8 : decode cX5_swap 8 = .ok (.iload_n 2, 1) := wtX5_swap_0.2.2.2.2.1
theorem dX5_swap_9 : decode cX5_swap 9 = .ok (.invokestatic 67, 3) := wtX5_swap_0.2.2.2.2.2.1
theorem dX5_swap_12 : decode cX5_swap 12 = .ok (.ifCond .eq 7, 3) := wtX5_swap_0.2.2.2.2.2.2.1
theorem dX5_swap_15 : decode cX5_swap 15 = .ok (.iconst 1, 1) := wtX5_swap_0.2.2.2.2.2.2.2.1
theorem dX5_swap_16 : decode cX5_swap 16 = .ok (.goto 4, 3) := wtX5_swap_0.2.2.2.2.2.2.2.2.1
theorem dX5_swap_19 : decode cX5_swap 19 = .ok (.iconst 0, 1) := wtX5_swap_0.2.2.2.2.2.2.2.2.2.1
theorem dX5_swap_20 : decode cX5_swap 20 = .ok (.iconst 1, 1) := wtX5_swap_0.2.2.2.2.2.2.2.2.2.2.1
theorem dX5_swap_21 : decode cX5_swap 21 = .ok (.invokevirtual 71, 3) := wtX5_swap_0.2.2.2.2.2.2.2.2.2.2.2.1
theorem wtX5_swap_24 : dwcj cX5_swap 24 [(0, .ifCond .eq 5, 3), (3, .iconst 0, 1), (4, .ireturn, 1), (5, .aload_n 0, 1), (6, .getfield 7, 3), (9, .iload_n 1, 1), (10, .laload, 1), (11, .lstore_n 3, 1), (12, .aload_n 0, 1), (13, .getfield 7, 3), (16, .iload_n 1, 1), (17, .aload_n 0, 1), (18, .getfield 7, 3), (21, .iload_n 2, 1), (22, .laload, 1), (23, .lastore, 1)] := dw_all (l := [153, 0, 5, 3, 172, 42, 180, 0, 7, 27, 47, 66, 42, 180, 0, 7, 27, 42, 180, 0, 7, 28, 47, 80]) (by decide +kernel)
theorem dX5_swap_24 : decode cX5_swap 24 = .ok (.ifCond .eq 5, 3) := wtX5_swap_24.1
theorem dX5_swap_27 : decode cX5_swap 27 = .ok (.iconst 0, 1) := wtX5_swap_24.2.1
theorem dX5_swap_28 : decode cX5_swap 28 = .ok (.ireturn, 1) := wtX5_swap_24.2.2.1
theorem dX5_swap_29 : decode cX5_swap 29 = .ok (.aload_n 0, 1) := wtX5_swap_24.2.2.2.1
theorem dX5_swap_30 : decode cX5_swap 30 = .ok (.getfield 7, 3) := wtX5_swap_24.2.2.2.2.1
theorem dX5_swap_33 : decode cX5_swap 33 = .ok (.iload_n 1, 1) := wtX5_swap_24.2.2.2.2.2.1
theorem dX5_swap_34 : decode cX5_swap 34 = .ok (.laload, 1) := wtX5_swap_24.2.2.2.2.2.2.1
theorem dX5_swap_35 : decode cX5_swap 35 = .ok (.lstore_n 3, 1) := wtX5_swap_24.2.2.2.2.2.2.2.1
theorem dX5_swap_36 : decode cX5_swap 36 = .ok (.aload_n 0, 1) := wtX5_swap_24.2.2.2.2.2.2.2.2.1
theorem dX5_swap_37 : decode cX5_swap 37 = .ok (.getfield 7, 3) := wtX5_swap_24.2.2.2.2.2.2.2.2.2.1
theorem dX5_swap_40 : decode cX5_swap 40 = .ok (.iload_n 1, 1) := wtX5_swap_24.2.2.2.2.2.2.2.2.2.2.1
theorem dX5_swap_41 : decode cX5_swap 41 = .ok (.aload_n 0, 1) := wtX5_swap_24.2.2.2.2.2.2.2.2.2.2.2.1
theorem dX5_swap_42 : decode cX5_swap 42 = .ok (.getfield 7, 3) := wtX5_swap_24.2.2.2.2.2.2.2.2.2.2.2.2.1
theorem dX5_swap_45 : decode cX5_swap 45 = .ok (.iload_n 2, 1) := wtX5_swap_24.2.2.2.2.2.2.2.2.2.2.2.2.2.1
theorem dX5_swap_46 : decode cX5_swap 46 = .ok (.laload, 1) := wtX5_swap_24.2.2.2.2.2.2.2.2.2.2.2.2.2.2.1
theorem dX5_swap_47 : decode cX5_swap 47 = .ok (.lastore, 1) := wtX5_swap_24.2.2.2.2.2.2.2.2.2.2.2.2.2.2.2.1
theorem wtX5_swap_48 : dwcj cX5_swap 48 [(0, .aload_n 0, 1), (1, .iload_n 2, 1), (2, .lload_n 3, 1), (3, .invokevirtual 59, 3), (6, .ireturn, 1)] := dw_all (l := [42, 28, 33, 182, 0, 59, 172]) (by decide +kernel)
theorem dX5_swap_48 : decode cX5_swap 48 = .ok (.aload_n 0, 1) := wtX5_swap_48.1
theorem dX5_swap_49 : decode cX5_swap 49 = .ok (.iload_n 2, 1) := wtX5_swap_48.2.1
theorem dX5_swap_50 : decode cX5_swap 50 = .ok (.lload_n 3, 1) := wtX5_swap_48.2.2.1
theorem dX5_swap_51 : decode cX5_swap 51 = .ok (.invokevirtual 59, 3) := wtX5_swap_48.2.2.2.1
theorem dX5_swap_54 : decode cX5_swap 54 = .ok (.ireturn, 1) := wtX5_swap_48.2.2.2.2.1
theorem wtX5_end_0 : dwcj cX5_end 0 [(0, .aload_n 0, 1), (1, .iload_n 1, 1), (2, .invokestatic 67, 3), (5, .ifCond .ne 18, 3), (8, .iload_n 2, 1), (9, .invokestatic 67, 3), (12, .ifCond .ne 11, 3), (15, .iload 4, 2), (17, .invokestatic 67, 3), (20, .ifCond .eq 7, 3), (23, .iconst 1, 1)] := dw_all (l := [42, 27, 184, 0, 67, 154, 0, 18, 28, 184, 0, 67, 154, 0, 11, 21, 4, 184, 0, 67, 153, 0, 7, 4]) (by decide +kernel)
theorem dX5_end_0 : decode cX5_end 0 = .ok (.aload_n 0, 1) := wtX5_end_0.1
theorem dX5_end_1 : decode cX5_end 1 = .ok (.iload_n 1, 1) := wtX5_end_0.2.1
theorem dX5_end_2 : decode cX5_end 2 = .ok (.invokestatic 67, 3) := wtX5_end_0.2.2.1
theorem dX5_end_5 : decode cX5_end 5 = .ok (.ifCond .ne 18, 3) := wtX5_end_0.2.2.2.1
theorem dX5_end_8 : decode cX5_end 8 = .ok (.iload_n 2, 1) := wtX5_end_0.2.2.2.2.1
theorem dX5_end_9 : decode cX5_end 9 = .ok (.invokestatic 67, 3) := wtX5_end_0.2.2.2.2.2.1
theorem dX5_end_12 : decode cX5_end 12 = .ok (.ifCond .ne 11, 3) := wtX5_end_0.2.2.2.2.2.2.1
theorem dX5_end_15 : decode cX5_end 15 = .ok (.iload 4, 2) := wtX5_end_0.2.2.2.2.2.2.2.1
theorem dX5_end_17 : decode cX5_end 17 = .ok (.invokestatic 67, 3) := wtX5_end_0.2.2.2.2.2.2.2.2.1
theorem dX5_end_20 : decode cX5_end 20 = .ok (.ifCond .eq 7, 3) := wtX5_end_0.2.2.2.2.2.2.2.2.2.1
theorem dX5_end_23 : decode cX5_end 23 = .ok (.iconst 1, 1) := wtX5_end_0.2.2.2.2.2.2.2.2.2.2.1
theorem wtX5_end_24 : dwcj cX5_end 24 [(0, .goto 4, 3), (3, .iconst 0, 1), (4, .iconst 1, 1), (5, .invokevirtual 71, 3), (8, .ifCond .eq 5, 3), (11, .iconst 0, 1), (12, .ireturn, 1), (13, .aload_n 0, 1), (14, .iload 4, 2), (16, .iload_n 3, 1), (17, .ifCond .eq 21, 3), (20, .aload_n 0, 1), (21, .getfield 7, 3)] := dw_all (l := [167, 0, 4, 3, 4, 182, 0, 71, 153, 0, 5, 3, 172, 42, 21, 4, 29, 153, 0, 21, 42, 180, 0, 7]) (by decide +kernel)
theorem dX5_end_24 : decode cX5_end 24 = .ok (.goto 4, 3) := wtX5_end_24.1
theorem dX5_end_27 : decode cX5_end 27 = .ok (.iconst 0, 1) := wtX5_end_24.2.1
theorem dX5_end_28 : decode cX5_end 28 = .ok (.iconst 1, 1) := wtX5_end_24.2.2.1
theorem dX5_end_29 : decode cX5_end 29 = .ok (.invokevirtual 71, 3) := wtX5_end_24.2.2.2.1
theorem dX5_end_32 : decode cX5_end 32 = .ok (.ifCond .eq 5, 3) := wtX5_end_24.2.2.2.2.1
theorem dX5_end_35 : decode cX5_end 35 = .ok (.iconst 0, 1) := wtX5_end_24.2.2.2.2.2.1
theorem dX5_end_36 : decode cX5_end 36 = .ok (.ireturn, 1) := wtX5_end_24.2.2.2.2.2.2.1
theorem dX5_end_37 : decode cX5_end 37 = .ok (.aload_n 0, 1) := wtX5_end_24.2.2.2.2.2.2.2.1
theorem dX5_end_38 : decode cX5_end 38 = .ok (.iload 4, 2) := wtX5_end_24.2.2.2.2.2.2.2.2.1
theorem dX5_end_40 : decode cX5_end 40 = .ok (.iload_n 3, 1) := wtX5_end_24.2.2.2.2.2.2.2.2.2.1
theorem dX5_end_41 : decode cX5_end 41 = .ok (.ifCond .eq 21, 3) := wtX5_end_24.2.2.2.2.2.2.2.2.2.2.1
theorem dX5_end_44 : decode cX5_end 44 = .ok (.aload_n 0, 1) := wtX5_end_24.2.2.2.2.2.2.2.2.2.2.2.1
theorem dX5_end_45 : decode cX5_end 45 = .ok (.getfield 7, 3) := wtX5_end_24.2.2.2.2.2.2.2.2.2.2.2.2.1
theorem wtX5_end_48 : dwcj cX5_end 48 [(0, .iload_n 1, 1), (1, .laload, 1), (2, .aload_n 0, 1), (3, .getfield 7, 3), (6, .iload_n 2, 1), (7, .laload, 1), (8, .invokestatic 76, 3), (11, .goto 18, 3), (14, .aload_n 0, 1), (15, .getfield 7, 3), (18, .iload_n 1, 1), (19, .laload, 1), (20, .aload_n 0, 1), (21, .getfield 7, 3)] := dw_all (l := [27, 47, 42, 180, 0, 7, 28, 47, 184, 0, 76, 167, 0, 18, 42, 180, 0, 7, 27, 47, 42, 180, 0, 7]) (by decide +kernel)
theorem dX5_end_48 : decode cX5_end 48 = .ok (.iload_n 1, 1) := wtX5_end_48.1
theorem dX5_end_49 : decode cX5_end 49 = .ok (.laload, 1) := wtX5_end_48.2.1
theorem dX5_end_50 : decode cX5_end 50 = .ok (.aload_n 0, 1) := wtX5_end_48.2.2.1
theorem dX5_end_51 : decode cX5_end 51 = .ok (.getfield 7, 3) := wtX5_end_48.2.2.2.1
theorem dX5_end_54 : decode cX5_end 54 = .ok (.iload_n 2, 1) := wtX5_end_48.2.2.2.2.1
theorem dX5_end_55 : decode cX5_end 55 = .ok (.laload, 1) := wtX5_end_48.2.2.2.2.2.1
theorem dX5_end_56 : decode cX5_end 56 = .ok (.invokestatic 76, 3) := wtX5_end_48.2.2.2.2.2.2.1
theorem dX5_end_59 : decode cX5_end 59 = .ok (.goto 18, 3) := wtX5_end_48.2.2.2.2.2.2.2.1
theorem dX5_end_62 : decode cX5_end 62 = .ok (.aload_n 0, 1) := wtX5_end_48.2.2.2.2.2.2.2.2.1
theorem dX5_end_63 : decode cX5_end 63 = .ok (.getfield 7, 3) := wtX5_end_48.2.2.2.2.2.2.2.2.2.1
theorem dX5_end_66 : decode cX5_end 66 = .ok (.iload_n 1, 1) := wtX5_end_48.2.2.2.2.2.2.2.2.2.2.1
theorem dX5_end_67 : decode cX5_end 67 = .ok (.laload, 1) := wtX5_end_48.2.2.2.2.2.2.2.2.2.2.2.1
theorem dX5_end_68 : decode cX5_end 68 = .ok (.aload_n 0, 1) := wtX5_end_48.2.2.2.2.2.2.2.2.2.2.2.2.1
theorem dX5_end_69 : decode cX5_end 69 = .ok (.getfield 7, 3) := wtX5_end_48.2.2.2.2.2.2.2.2.2.2.2.2.2.1
theorem wtX5_end_72 : dwcj cX5_end 72 [(0, .iload_n 2, 1), (1, .laload, 1), (2, .invokestatic 81, 3), (5, .invokevirtual 59, 3), (8, .ireturn, 1)] := dw_all (l := [28, 47, 184, 0, 81, 182, 0, 59, 172]) (by decide +kernel)
theorem dX5_end_72 : decode cX5_end 72 = .ok (.iload_n 2, 1) := wtX5_end_72.1
theorem dX5_end_73 : decode cX5_end 73 = .ok (.laload, 1) := wtX5_end_72.2.1
theorem dX5_end_74 : decode cX5_end 74 = .ok (.invokestatic 81, 3) := wtX5_end_72.2.2.1
theorem dX5_end_77 : decode cX5_end 77 = .ok (.invokevirtual 59, 3) := wtX5_end_72.2.2.2.1
theorem dX5_end_80 : decode cX5_end 80 = .ok (.ireturn, 1) := wtX5_end_72.2.2.2.2.1
theorem wtX5_join_0 : dwcj cX5_join 0 [(0, .aload_n 0, 1), (1, .iload_n 1, 1), (2, .invokestatic 67, 3), (5, .ifCond .ne 18, 3), (8, .iload_n 2, 1), (9, .invokestatic 67, 3), (12, .ifCond .ne 11, 3), (15, .iload 4, 2), (17, .invokestatic 67, 3), (20, .ifCond .eq 7, 3), (23, .iconst 1, 1)] := dw_all (l := [42, 27, 184, 0, 67, 154, 0, 18, 28, 184, 0, 67, 154, 0, 11, 21, 4, 184, 0, 67, 153, 0, 7, 4]) (by decide +kernel)
theorem dX5_join_0 : decode cX5_join 0 = .ok (.aload_n 0, 1) := wtX5_join_0.1
theorem dX5_join_1 : decode cX5_join 1 = .ok (.iload_n 1, 1) := wtX5_join_0.2.1
theorem dX5_join_2 : decode cX5_join 2 = .ok (.invokestatic 67, 3) := wtX5_join_0.2.2.1
theorem dX5_join_5 : decode cX5_join 5 = .ok (.ifCond .ne 18, 3) := wtX5_join_0.2.2.2.1
theorem dX5_join_8 : decode cX5_join 8 = .ok (.iload_n 2, 1) := wtX5_join_0.2.2.2.2.1
theorem dX5_join_9 : decode cX5_join 9 = .ok (.invokestatic 67, 3) := wtX5_join_0.2.2.2.2.2.1
theorem dX5_join_12 : decode cX5_join 12 = .ok (.ifCond .ne 11, 3) := wtX5_join_0.2.2.2.2.2.2.1
theorem dX5_join_15 : decode cX5_join 15 = .ok (.iload 4, 2) := wtX5_join_0.2.2.2.2.2.2.2.1
theorem dX5_join_17 : decode cX5_join 17 = .ok (.invokestatic 67, 3) := wtX5_join_0.2.2.2.2.2.2.2.2.1
theorem dX5_join_20 : decode cX5_join 20 = .ok (.ifCond .eq 7, 3) := wtX5_join_0.2.2.2.2.2.2.2.2.2.1
theorem dX5_join_23 : decode cX5_join 23 = .ok (.iconst 1, 1) := wtX5_join_0.2.2.2.2.2.2.2.2.2.2.1
theorem wtX5_join_24 : dwcj cX5_join 24 [(0, .goto 4, 3), (3, .iconst 0, 1), (4, .iconst 1, 1), (5, .invokevirtual 71, 3), (8, .ifCond .ne 25, 3), (11, .aload_n 0, 1), (12, .iload_n 3, 1), (13, .iconst 0, 1), (14, .iconst 3, 1), (15, .invokestatic 21, 3), (18, .ifCond .ne 7, 3), (21, .iconst 1, 1), (22, .goto 4, 3)] := dw_all (l := [167, 0, 4, 3, 4, 182, 0, 71, 154, 0, 25, 42, 29, 3, 6, 184, 0, 21, 154, 0, 7, 4, 167, 0, 4]) (by decide +kernel)
theorem dX5_join_24 : decode cX5_join 24 = .ok (.goto 4, 3) := wtX5_join_24.1
theorem dX5_join_27 : decode cX5_join 27 = .ok (.iconst 0, 1) := wtX5_join_24.2.1
theorem dX5_join_28 : decode cX5_join 28 = .ok (.iconst 1, 1) := wtX5_join_24.2.2.1
theorem dX5_join_29 : decode cX5_join 29 = .ok (.invokevirtual 71, 3) := wtX5_join_24.2.2.2.1
theorem dX5_join_32 : decode cX5_join 32 = .ok (.ifCond .ne 25, 3) := wtX5_join_24.2.2.2.2.1
theorem dX5_join_35 : decode cX5_join 35 = .ok (.aload_n 0, 1) := wtX5_join_24.2.2.2.2.2.1
theorem dX5_join_36 : decode cX5_join 36 = .ok (.iload_n 3, 1) := wtX5_join_24.2.2.2.2.2.2.1
theorem dX5_join_37 : decode cX5_join 37 = .ok (.iconst 0, 1) := wtX5_join_24.2.2.2.2.2.2.2.1
theorem dX5_join_38 : decode cX5_join 38 = .ok (.iconst 3, 1) := wtX5_join_24.2.2.2.2.2.2.2.2.1
theorem dX5_join_39 : decode cX5_join 39 = .ok (.invokestatic 21, 3) := wtX5_join_24.2.2.2.2.2.2.2.2.2.1
theorem dX5_join_42 : decode cX5_join 42 = .ok (.ifCond .ne 7, 3) := wtX5_join_24.2.2.2.2.2.2.2.2.2.2.1
theorem dX5_join_45 : decode cX5_join 45 = .ok (.iconst 1, 1) := wtX5_join_24.2.2.2.2.2.2.2.2.2.2.2.1
theorem dX5_join_46 : decode cX5_join 46 = .ok (.goto 4, 3) := wtX5_join_24.2.2.2.2.2.2.2.2.2.2.2.2.1
theorem wtX5_join_49 : dwcj cX5_join 49 [(0, .iconst 0, 1), (1, .iconst 2, 1), (2, .invokevirtual 17, 3), (5, .ifCond .eq 5, 3), (8, .iconst 0, 1), (9, .ireturn, 1), (10, .aload_n 0, 1), (11, .getfield 7, 3), (14, .iload_n 1, 1), (15, .laload, 1), (16, .lstore 5, 2), (18, .aload_n 0, 1), (19, .getfield 7, 3), (22, .iload_n 2, 1), (23, .laload, 1)] := dw_all (l := [3, 5, 182, 0, 17, 153, 0, 5, 3, 172, 42, 180, 0, 7, 27, 47, 55, 5, 42, 180, 0, 7, 28, 47]) (by decide +kernel)
theorem dX5_join_49 : decode cX5_join 49 = .ok (.iconst 0, 1) := wtX5_join_49.1
theorem dX5_join_50 : decode cX5_join 50 = .ok (.iconst 2, 1) := wtX5_join_49.2.1
theorem dX5_join_51 : decode cX5_join 51 = .ok (.invokevirtual 17, 3) := wtX5_join_49.2.2.1
theorem dX5_join_54 : decode cX5_join 54 = .ok (.ifCond .eq 5, 3) := wtX5_join_49.2.2.2.1
theorem dX5_join_57 : decode cX5_join 57 = .ok (.iconst 0, 1) := wtX5_join_49.2.2.2.2.1
theorem dX5_join_58 : decode cX5_join 58 = .ok (.ireturn, 1) := wtX5_join_49.2.2.2.2.2.1
theorem dX5_join_59 : decode cX5_join 59 = .ok (.aload_n 0, 1) := wtX5_join_49.2.2.2.2.2.2.1
theorem dX5_join_60 : decode cX5_join 60 = .ok (.getfield 7, 3) := wtX5_join_49.2.2.2.2.2.2.2.1
theorem dX5_join_63 : decode cX5_join 63 = .ok (.iload_n 1, 1) := wtX5_join_49.2.2.2.2.2.2.2.2.1
theorem dX5_join_64 : decode cX5_join 64 = .ok (.laload, 1) := wtX5_join_49.2.2.2.2.2.2.2.2.2.1
theorem dX5_join_65 : decode cX5_join 65 = .ok (.lstore 5, 2) := wtX5_join_49.2.2.2.2.2.2.2.2.2.2.1
theorem dX5_join_67 : decode cX5_join 67 = .ok (.aload_n 0, 1) := wtX5_join_49.2.2.2.2.2.2.2.2.2.2.2.1
theorem dX5_join_68 : decode cX5_join 68 = .ok (.getfield 7, 3) := wtX5_join_49.2.2.2.2.2.2.2.2.2.2.2.2.1
theorem dX5_join_71 : decode cX5_join 71 = .ok (.iload_n 2, 1) := wtX5_join_49.2.2.2.2.2.2.2.2.2.2.2.2.2.1
theorem dX5_join_72 : decode cX5_join 72 = .ok (.laload, 1) := wtX5_join_49.2.2.2.2.2.2.2.2.2.2.2.2.2.2.1
theorem wtX5_join_73 : dwcj cX5_join 73 [(0, .lstore 7, 2), (2, .iload_n 3, 1)] := dw_all (l := [55, 7, 29]) (by decide +kernel)
theorem dX5_join_73 : decode cX5_join 73 = .ok (.lstore 7, 2) := wtX5_join_73.1
theorem dX5_join_75 : decode cX5_join 75 = .ok (.iload_n 3, 1) := wtX5_join_73.2.1
theorem dX5_join_76 : decode cX5_join 76 = .ok (.tableswitch 64 0 2 #[28, 40, 52], 28) := by decide +kernel
theorem wtX5_join_104 : dwcj cX5_join 104 [(0, .aload_n 0, 1), (1, .iload 4, 2), (3, .lload 5, 2), (5, .lload 7, 2), (7, .lxor, 1), (8, .invokevirtual 59, 3), (11, .ireturn, 1), (12, .aload_n 0, 1), (13, .iload 4, 2), (15, .lload 5, 2), (17, .lload 7, 2), (19, .land, 1), (20, .invokevirtual 59, 3), (23, .ireturn, 1)] := dw_all (l := [42, 21, 4, 22, 5, 22, 7, 131, 182, 0, 59, 172, 42, 21, 4, 22, 5, 22, 7, 127, 182, 0, 59, 172]) (by decide +kernel)
theorem dX5_join_104 : decode cX5_join 104 = .ok (.aload_n 0, 1) := wtX5_join_104.1
theorem dX5_join_105 : decode cX5_join 105 = .ok (.iload 4, 2) := wtX5_join_104.2.1
theorem dX5_join_107 : decode cX5_join 107 = .ok (.lload 5, 2) := wtX5_join_104.2.2.1
theorem dX5_join_109 : decode cX5_join 109 = .ok (.lload 7, 2) := wtX5_join_104.2.2.2.1
theorem dX5_join_111 : decode cX5_join 111 = .ok (.lxor, 1) := wtX5_join_104.2.2.2.2.1
theorem dX5_join_112 : decode cX5_join 112 = .ok (.invokevirtual 59, 3) := wtX5_join_104.2.2.2.2.2.1
theorem dX5_join_115 : decode cX5_join 115 = .ok (.ireturn, 1) := wtX5_join_104.2.2.2.2.2.2.1
theorem dX5_join_116 : decode cX5_join 116 = .ok (.aload_n 0, 1) := wtX5_join_104.2.2.2.2.2.2.2.1
theorem dX5_join_117 : decode cX5_join 117 = .ok (.iload 4, 2) := wtX5_join_104.2.2.2.2.2.2.2.2.1
theorem dX5_join_119 : decode cX5_join 119 = .ok (.lload 5, 2) := wtX5_join_104.2.2.2.2.2.2.2.2.2.1
theorem dX5_join_121 : decode cX5_join 121 = .ok (.lload 7, 2) := wtX5_join_104.2.2.2.2.2.2.2.2.2.2.1
theorem dX5_join_123 : decode cX5_join 123 = .ok (.land, 1) := wtX5_join_104.2.2.2.2.2.2.2.2.2.2.2.1
theorem dX5_join_124 : decode cX5_join 124 = .ok (.invokevirtual 59, 3) := wtX5_join_104.2.2.2.2.2.2.2.2.2.2.2.2.1
theorem dX5_join_127 : decode cX5_join 127 = .ok (.ireturn, 1) := wtX5_join_104.2.2.2.2.2.2.2.2.2.2.2.2.2.1
theorem wtX5_join_128 : dwcj cX5_join 128 [(0, .aload_n 0, 1), (1, .iload 4, 2), (3, .lload 5, 2), (5, .lload 7, 2), (7, .lor, 1), (8, .invokevirtual 59, 3), (11, .ireturn, 1), (12, .aload_n 0, 1), (13, .iload 4, 2), (15, .lload 5, 2), (17, .lload 7, 2), (19, .ldc2_w 84, 3), (22, .lxor, 1), (23, .land, 1)] := dw_all (l := [42, 21, 4, 22, 5, 22, 7, 129, 182, 0, 59, 172, 42, 21, 4, 22, 5, 22, 7, 20, 0, 84, 131, 127]) (by decide +kernel)
theorem dX5_join_128 : decode cX5_join 128 = .ok (.aload_n 0, 1) := wtX5_join_128.1
theorem dX5_join_129 : decode cX5_join 129 = .ok (.iload 4, 2) := wtX5_join_128.2.1
theorem dX5_join_131 : decode cX5_join 131 = .ok (.lload 5, 2) := wtX5_join_128.2.2.1
theorem dX5_join_133 : decode cX5_join 133 = .ok (.lload 7, 2) := wtX5_join_128.2.2.2.1
theorem dX5_join_135 : decode cX5_join 135 = .ok (.lor, 1) := wtX5_join_128.2.2.2.2.1
theorem dX5_join_136 : decode cX5_join 136 = .ok (.invokevirtual 59, 3) := wtX5_join_128.2.2.2.2.2.1
theorem dX5_join_139 : decode cX5_join 139 = .ok (.ireturn, 1) := wtX5_join_128.2.2.2.2.2.2.1
theorem dX5_join_140 : decode cX5_join 140 = .ok (.aload_n 0, 1) := wtX5_join_128.2.2.2.2.2.2.2.1
theorem dX5_join_141 : decode cX5_join 141 = .ok (.iload 4, 2) := wtX5_join_128.2.2.2.2.2.2.2.2.1
theorem dX5_join_143 : decode cX5_join 143 = .ok (.lload 5, 2) := wtX5_join_128.2.2.2.2.2.2.2.2.2.1
theorem dX5_join_145 : decode cX5_join 145 = .ok (.lload 7, 2) := wtX5_join_128.2.2.2.2.2.2.2.2.2.2.1
theorem dX5_join_147 : decode cX5_join 147 = .ok (.ldc2_w 84, 3) := wtX5_join_128.2.2.2.2.2.2.2.2.2.2.2.1
theorem dX5_join_150 : decode cX5_join 150 = .ok (.lxor, 1) := wtX5_join_128.2.2.2.2.2.2.2.2.2.2.2.2.1
theorem dX5_join_151 : decode cX5_join 151 = .ok (.land, 1) := wtX5_join_128.2.2.2.2.2.2.2.2.2.2.2.2.2.1
theorem wtX5_join_152 : dwcj cX5_join 152 [(0, .invokevirtual 59, 3), (3, .ireturn, 1)] := dw_all (l := [182, 0, 59, 172]) (by decide +kernel)
theorem dX5_join_152 : decode cX5_join 152 = .ok (.invokevirtual 59, 3) := wtX5_join_152.1
theorem dX5_join_155 : decode cX5_join 155 = .ok (.ireturn, 1) := wtX5_join_152.2.1
theorem wtX5_multiply_0 : dwcj cX5_multiply 0 [(0, .aload_n 0, 1), (1, .lload_n 1, 1), (2, .invokestatic 33, 3), (5, .lload_n 3, 1), (6, .invokestatic 33, 3), (9, .iadd, 1), (10, .bipush 32, 2), (12, .if_icmp .gt 7, 3), (15, .iconst 1, 1), (16, .goto 4, 3), (19, .iconst 0, 1), (20, .iload 5, 2), (22, .lload_n 1, 1), (23, .lload_n 3, 1)] := dw_all (l := [42, 31, 184, 0, 33, 33, 184, 0, 33, 96, 16, 32, 163, 0, 7, 4, 167, 0, 4, 3, 21, 5, 31, 33]) (by decide +kernel)
theorem dX5_multiply_0 : decode cX5_multiply 0 = .ok (.aload_n 0, 1) := wtX5_multiply_0.1
theorem dX5_multiply_1 : decode cX5_multiply 1 = .ok (.lload_n 1, 1) := wtX5_multiply_0.2.1
theorem dX5_multiply_2 : decode cX5_multiply 2 = .ok (.invokestatic 33, 3) := wtX5_multiply_0.2.2.1
theorem dX5_multiply_5 : decode cX5_multiply 5 = .ok (.lload_n 3, 1) := wtX5_multiply_0.2.2.2.1
theorem dX5_multiply_6 : decode cX5_multiply 6 = .ok (.invokestatic 33, 3) := wtX5_multiply_0.2.2.2.2.1
theorem dX5_multiply_9 : decode cX5_multiply 9 = .ok (.iadd, 1) := wtX5_multiply_0.2.2.2.2.2.1
theorem dX5_multiply_10 : decode cX5_multiply 10 = .ok (.bipush 32, 2) := wtX5_multiply_0.2.2.2.2.2.2.1
theorem dX5_multiply_12 : decode cX5_multiply 12 = .ok (.if_icmp .gt 7, 3) := wtX5_multiply_0.2.2.2.2.2.2.2.1
theorem dX5_multiply_15 : decode cX5_multiply 15 = .ok (.iconst 1, 1) := wtX5_multiply_0.2.2.2.2.2.2.2.2.1
theorem dX5_multiply_16 : decode cX5_multiply 16 = .ok (.goto 4, 3) := wtX5_multiply_0.2.2.2.2.2.2.2.2.2.1
theorem dX5_multiply_19 : decode cX5_multiply 19 = .ok (.iconst 0, 1) := wtX5_multiply_0.2.2.2.2.2.2.2.2.2.2.1
theorem dX5_multiply_20 : decode cX5_multiply 20 = .ok (.iload 5, 2) := wtX5_multiply_0.2.2.2.2.2.2.2.2.2.2.2.1
theorem dX5_multiply_22 : decode cX5_multiply 22 = .ok (.lload_n 1, 1) := wtX5_multiply_0.2.2.2.2.2.2.2.2.2.2.2.2.1
theorem dX5_multiply_23 : decode cX5_multiply 23 = .ok (.lload_n 3, 1) := wtX5_multiply_0.2.2.2.2.2.2.2.2.2.2.2.2.2.1
theorem wtX5_multiply_24 : dwcj cX5_multiply 24 [(0, .invokestatic 41, 3), (3, .invokevirtual 86, 3), (6, .ireturn, 1)] := dw_all (l := [184, 0, 41, 182, 0, 86, 172]) (by decide +kernel)
theorem dX5_multiply_24 : decode cX5_multiply 24 = .ok (.invokestatic 41, 3) := wtX5_multiply_24.1
theorem dX5_multiply_27 : decode cX5_multiply 27 = .ok (.invokevirtual 86, 3) := wtX5_multiply_24.2.1
theorem dX5_multiply_30 : decode cX5_multiply 30 = .ok (.ireturn, 1) := wtX5_multiply_24.2.2.1
theorem wtX5_times_0 : dwcj cX5_times 0 [(0, .aload_n 0, 1), (1, .iload_n 1, 1), (2, .invokestatic 67, 3), (5, .ifCond .ne 17, 3), (8, .iload_n 2, 1), (9, .invokestatic 67, 3), (12, .ifCond .ne 10, 3), (15, .iload_n 3, 1), (16, .invokestatic 67, 3), (19, .ifCond .eq 7, 3), (22, .iconst 1, 1), (23, .goto 4, 3)] := dw_all (l := [42, 27, 184, 0, 67, 154, 0, 17, 28, 184, 0, 67, 154, 0, 10, 29, 184, 0, 67, 153, 0, 7, 4, 167, 0, 4]) (by decide +kernel)
theorem dX5_times_0 : decode cX5_times 0 = .ok (.aload_n 0, 1) := wtX5_times_0.1
theorem dX5_times_1 : decode cX5_times 1 = .ok (.iload_n 1, 1) := wtX5_times_0.2.1
theorem dX5_times_2 : decode cX5_times 2 = .ok (.invokestatic 67, 3) := wtX5_times_0.2.2.1
theorem dX5_times_5 : decode cX5_times 5 = .ok (.ifCond .ne 17, 3) := wtX5_times_0.2.2.2.1
theorem dX5_times_8 : decode cX5_times 8 = .ok (.iload_n 2, 1) := wtX5_times_0.2.2.2.2.1
theorem dX5_times_9 : decode cX5_times 9 = .ok (.invokestatic 67, 3) := wtX5_times_0.2.2.2.2.2.1
theorem dX5_times_12 : decode cX5_times 12 = .ok (.ifCond .ne 10, 3) := wtX5_times_0.2.2.2.2.2.2.1
theorem dX5_times_15 : decode cX5_times 15 = .ok (.iload_n 3, 1) := wtX5_times_0.2.2.2.2.2.2.2.1
theorem dX5_times_16 : decode cX5_times 16 = .ok (.invokestatic 67, 3) := wtX5_times_0.2.2.2.2.2.2.2.2.1
theorem dX5_times_19 : decode cX5_times 19 = .ok (.ifCond .eq 7, 3) := wtX5_times_0.2.2.2.2.2.2.2.2.2.1
theorem dX5_times_22 : decode cX5_times 22 = .ok (.iconst 1, 1) := wtX5_times_0.2.2.2.2.2.2.2.2.2.2.1
theorem dX5_times_23 : decode cX5_times 23 = .ok (.goto 4, 3) := wtX5_times_0.2.2.2.2.2.2.2.2.2.2.2.1
theorem wtX5_times_26 : dwcj cX5_times 26 [(0, .iconst 0, 1), (1, .iconst 1, 1), (2, .invokevirtual 71, 3), (5, .ifCond .eq 7, 3), (8, .iconst 0, 1), (9, .goto 20, 3), (12, .aload_n 0, 1), (13, .aload_n 0, 1), (14, .getfield 7, 3), (17, .iload_n 1, 1), (18, .laload, 1), (19, .aload_n 0, 1), (20, .getfield 7, 3), (23, .iload_n 2, 1)] := dw_all (l := [3, 4, 182, 0, 71, 153, 0, 7, 3, 167, 0, 20, 42, 42, 180, 0, 7, 27, 47, 42, 180, 0, 7, 28]) (by decide +kernel)
theorem dX5_times_26 : decode cX5_times 26 = .ok (.iconst 0, 1) := wtX5_times_26.1
theorem dX5_times_27 : decode cX5_times 27 = .ok (.iconst 1, 1) := wtX5_times_26.2.1
theorem dX5_times_28 : decode cX5_times 28 = .ok (.invokevirtual 71, 3) := wtX5_times_26.2.2.1
theorem dX5_times_31 : decode cX5_times 31 = .ok (.ifCond .eq 7, 3) := wtX5_times_26.2.2.2.1
theorem dX5_times_34 : decode cX5_times 34 = .ok (.iconst 0, 1) := wtX5_times_26.2.2.2.2.1
theorem dX5_times_35 : decode cX5_times 35 = .ok (.goto 20, 3) := wtX5_times_26.2.2.2.2.2.1
theorem dX5_times_38 : decode cX5_times 38 = .ok (.aload_n 0, 1) := wtX5_times_26.2.2.2.2.2.2.1
theorem dX5_times_39 : decode cX5_times 39 = .ok (.aload_n 0, 1) := wtX5_times_26.2.2.2.2.2.2.2.1
theorem dX5_times_40 : decode cX5_times 40 = .ok (.getfield 7, 3) := wtX5_times_26.2.2.2.2.2.2.2.2.1
theorem dX5_times_43 : decode cX5_times 43 = .ok (.iload_n 1, 1) := wtX5_times_26.2.2.2.2.2.2.2.2.2.1
theorem dX5_times_44 : decode cX5_times 44 = .ok (.laload, 1) := wtX5_times_26.2.2.2.2.2.2.2.2.2.2.1
theorem dX5_times_45 : decode cX5_times 45 = .ok (.aload_n 0, 1) := wtX5_times_26.2.2.2.2.2.2.2.2.2.2.2.1
theorem dX5_times_46 : decode cX5_times 46 = .ok (.getfield 7, 3) := wtX5_times_26.2.2.2.2.2.2.2.2.2.2.2.2.1
theorem dX5_times_49 : decode cX5_times 49 = .ok (.iload_n 2, 1) := wtX5_times_26.2.2.2.2.2.2.2.2.2.2.2.2.2.1
theorem wtX5_times_50 : dwcj cX5_times 50 [(0, .laload, 1), (1, .iload_n 3, 1), (2, .invokevirtual 90, 3), (5, .ireturn, 1)] := dw_all (l := [47, 29, 182, 0, 90, 172]) (by decide +kernel)
theorem dX5_times_50 : decode cX5_times 50 = .ok (.laload, 1) := wtX5_times_50.1
theorem dX5_times_51 : decode cX5_times 51 = .ok (.iload_n 3, 1) := wtX5_times_50.2.1
theorem dX5_times_52 : decode cX5_times 52 = .ok (.invokevirtual 90, 3) := wtX5_times_50.2.2.1
theorem dX5_times_55 : decode cX5_times 55 = .ok (.ireturn, 1) := wtX5_times_50.2.2.2.1
theorem wtX5_square_0 : dwcj cX5_square 0 [(0, .aload_n 0, 1), (1, .iload_n 1, 1), (2, .invokestatic 67, 3), (5, .ifCond .ne 10, 3), (8, .iload_n 2, 1), (9, .invokestatic 67, 3), (12, .ifCond .eq 7, 3), (15, .iconst 1, 1), (16, .goto 4, 3), (19, .iconst 0, 1), (20, .iconst 1, 1), (21, .invokevirtual 71, 3)] := dw_all (l := [42, 27, 184, 0, 67, 154, 0, 10, 28, 184, 0, 67, 153, 0, 7, 4, 167, 0, 4, 3, 4, 182, 0, 71]) (by decide +kernel)
theorem dX5_square_0 : decode cX5_square 0 = .ok (.aload_n 0, 1) := wtX5_square_0.1
theorem dX5_square_1 : decode cX5_square 1 = .ok (.iload_n 1, 1) := wtX5_square_0.2.1
theorem dX5_square_2 : decode cX5_square 2 = .ok (.invokestatic 67, 3) := wtX5_square_0.2.2.1
theorem dX5_square_5 : decode cX5_square 5 = .ok (.ifCond .ne 10, 3) := wtX5_square_0.2.2.2.1
theorem dX5_square_8 : decode cX5_square 8 = .ok (.iload_n 2, 1) := wtX5_square_0.2.2.2.2.1
theorem dX5_square_9 : decode cX5_square 9 = .ok (.invokestatic 67, 3) := wtX5_square_0.2.2.2.2.2.1
theorem dX5_square_12 : decode cX5_square 12 = .ok (.ifCond .eq 7, 3) := wtX5_square_0.2.2.2.2.2.2.1
theorem dX5_square_15 : decode cX5_square 15 = .ok (.iconst 1, 1) := wtX5_square_0.2.2.2.2.2.2.2.1
theorem dX5_square_16 : decode cX5_square 16 = .ok (.goto 4, 3) := wtX5_square_0.2.2.2.2.2.2.2.2.1
theorem dX5_square_19 : decode cX5_square 19 = .ok (.iconst 0, 1) := wtX5_square_0.2.2.2.2.2.2.2.2.2.1
theorem dX5_square_20 : decode cX5_square 20 = .ok (.iconst 1, 1) := wtX5_square_0.2.2.2.2.2.2.2.2.2.2.1
theorem dX5_square_21 : decode cX5_square 21 = .ok (.invokevirtual 71, 3) := wtX5_square_0.2.2.2.2.2.2.2.2.2.2.2.1
theorem wtX5_square_24 : dwcj cX5_square 24 [(0, .ifCond .eq 7, 3), (3, .iconst 0, 1), (4, .goto 20, 3), (7, .aload_n 0, 1), (8, .aload_n 0, 1), (9, .getfield 7, 3), (12, .iload_n 1, 1), (13, .laload, 1), (14, .aload_n 0, 1), (15, .getfield 7, 3), (18, .iload_n 1, 1), (19, .laload, 1), (20, .iload_n 2, 1), (21, .invokevirtual 90, 3)] := dw_all (l := [153, 0, 7, 3, 167, 0, 20, 42, 42, 180, 0, 7, 27, 47, 42, 180, 0, 7, 27, 47, 28, 182, 0, 90]) (by decide +kernel)
theorem dX5_square_24 : decode cX5_square 24 = .ok (.ifCond .eq 7, 3) := wtX5_square_24.1
theorem dX5_square_27 : decode cX5_square 27 = .ok (.iconst 0, 1) := wtX5_square_24.2.1
theorem dX5_square_28 : decode cX5_square 28 = .ok (.goto 20, 3) := wtX5_square_24.2.2.1
theorem dX5_square_31 : decode cX5_square 31 = .ok (.aload_n 0, 1) := wtX5_square_24.2.2.2.1
theorem dX5_square_32 : decode cX5_square 32 = .ok (.aload_n 0, 1) := wtX5_square_24.2.2.2.2.1
theorem dX5_square_33 : decode cX5_square 33 = .ok (.getfield 7, 3) := wtX5_square_24.2.2.2.2.2.1
theorem dX5_square_36 : decode cX5_square 36 = .ok (.iload_n 1, 1) := wtX5_square_24.2.2.2.2.2.2.1
theorem dX5_square_37 : decode cX5_square 37 = .ok (.laload, 1) := wtX5_square_24.2.2.2.2.2.2.2.1
theorem dX5_square_38 : decode cX5_square 38 = .ok (.aload_n 0, 1) := wtX5_square_24.2.2.2.2.2.2.2.2.1
theorem dX5_square_39 : decode cX5_square 39 = .ok (.getfield 7, 3) := wtX5_square_24.2.2.2.2.2.2.2.2.2.1
theorem dX5_square_42 : decode cX5_square 42 = .ok (.iload_n 1, 1) := wtX5_square_24.2.2.2.2.2.2.2.2.2.2.1
theorem dX5_square_43 : decode cX5_square 43 = .ok (.laload, 1) := wtX5_square_24.2.2.2.2.2.2.2.2.2.2.2.1
theorem dX5_square_44 : decode cX5_square 44 = .ok (.iload_n 2, 1) := wtX5_square_24.2.2.2.2.2.2.2.2.2.2.2.2.1
theorem dX5_square_45 : decode cX5_square 45 = .ok (.invokevirtual 90, 3) := wtX5_square_24.2.2.2.2.2.2.2.2.2.2.2.2.2.1
theorem wtX5_square_48 : dwcj cX5_square 48 [(0, .ireturn, 1)] := dw_all (l := [172]) (by decide +kernel)
theorem dX5_square_48 : decode cX5_square 48 = .ok (.ireturn, 1) := wtX5_square_48.1
theorem wtX5_shift_0 : dwcj cX5_shift 0 [(0, .aload_n 0, 1), (1, .iload_n 1, 1), (2, .invokestatic 67, 3), (5, .ifCond .ne 10, 3), (8, .iload_n 3, 1), (9, .invokestatic 67, 3), (12, .ifCond .eq 7, 3), (15, .iconst 1, 1), (16, .goto 4, 3), (19, .iconst 0, 1), (20, .iconst 1, 1), (21, .invokevirtual 71, 3)] := dw_all (l := [42, 27, 184, 0, 67, 154, 0, 10, 29, 184, 0, 67, 153, 0, 7, 4, 167, 0, 4, 3, 4, 182, 0, 71]) (by decide +kernel)
theorem dX5_shift_0 : decode cX5_shift 0 = .ok (.aload_n 0, 1) := wtX5_shift_0.1
theorem dX5_shift_1 : decode cX5_shift 1 = .ok (.iload_n 1, 1) := wtX5_shift_0.2.1
theorem dX5_shift_2 : decode cX5_shift 2 = .ok (.invokestatic 67, 3) := wtX5_shift_0.2.2.1
theorem dX5_shift_5 : decode cX5_shift 5 = .ok (.ifCond .ne 10, 3) := wtX5_shift_0.2.2.2.1
theorem dX5_shift_8 : decode cX5_shift 8 = .ok (.iload_n 3, 1) := wtX5_shift_0.2.2.2.2.1
theorem dX5_shift_9 : decode cX5_shift 9 = .ok (.invokestatic 67, 3) := wtX5_shift_0.2.2.2.2.2.1
theorem dX5_shift_12 : decode cX5_shift 12 = .ok (.ifCond .eq 7, 3) := wtX5_shift_0.2.2.2.2.2.2.1
theorem dX5_shift_15 : decode cX5_shift 15 = .ok (.iconst 1, 1) := wtX5_shift_0.2.2.2.2.2.2.2.1
theorem dX5_shift_16 : decode cX5_shift 16 = .ok (.goto 4, 3) := wtX5_shift_0.2.2.2.2.2.2.2.2.1
theorem dX5_shift_19 : decode cX5_shift 19 = .ok (.iconst 0, 1) := wtX5_shift_0.2.2.2.2.2.2.2.2.2.1
theorem dX5_shift_20 : decode cX5_shift 20 = .ok (.iconst 1, 1) := wtX5_shift_0.2.2.2.2.2.2.2.2.2.2.1
theorem dX5_shift_21 : decode cX5_shift 21 = .ok (.invokevirtual 71, 3) := wtX5_shift_0.2.2.2.2.2.2.2.2.2.2.2.1
theorem wtX5_shift_24 : dwcj cX5_shift 24 [(0, .ifCond .ne 27, 3), (3, .aload_n 0, 1), (4, .iload_n 2, 1), (5, .bipush (-32), 2), (7, .bipush 32, 2), (9, .invokestatic 21, 3), (12, .ifCond .ne 7, 3), (15, .iconst 1, 1), (16, .goto 4, 3), (19, .iconst 0, 1), (20, .iconst 2, 1), (21, .invokevirtual 17, 3)] := dw_all (l := [154, 0, 27, 42, 28, 16, 224, 16, 32, 184, 0, 21, 154, 0, 7, 4, 167, 0, 4, 3, 5, 182, 0, 17]) (by decide +kernel)
theorem dX5_shift_24 : decode cX5_shift 24 = .ok (.ifCond .ne 27, 3) := wtX5_shift_24.1
theorem dX5_shift_27 : decode cX5_shift 27 = .ok (.aload_n 0, 1) := wtX5_shift_24.2.1
theorem dX5_shift_28 : decode cX5_shift 28 = .ok (.iload_n 2, 1) := wtX5_shift_24.2.2.1
theorem dX5_shift_29 : decode cX5_shift 29 = .ok (.bipush (-32), 2) := wtX5_shift_24.2.2.2.1
theorem dX5_shift_31 : decode cX5_shift 31 = .ok (.bipush 32, 2) := wtX5_shift_24.2.2.2.2.1
theorem dX5_shift_33 : decode cX5_shift 33 = .ok (.invokestatic 21, 3) := wtX5_shift_24.2.2.2.2.2.1
theorem dX5_shift_36 : decode cX5_shift 36 = .ok (.ifCond .ne 7, 3) := wtX5_shift_24.2.2.2.2.2.2.1
theorem dX5_shift_39 : decode cX5_shift 39 = .ok (.iconst 1, 1) := wtX5_shift_24.2.2.2.2.2.2.2.1
theorem dX5_shift_40 : decode cX5_shift 40 = .ok (.goto 4, 3) := wtX5_shift_24.2.2.2.2.2.2.2.2.1
theorem dX5_shift_43 : decode cX5_shift 43 = .ok (.iconst 0, 1) := wtX5_shift_24.2.2.2.2.2.2.2.2.2.1
theorem dX5_shift_44 : decode cX5_shift 44 = .ok (.iconst 2, 1) := wtX5_shift_24.2.2.2.2.2.2.2.2.2.2.1
theorem dX5_shift_45 : decode cX5_shift 45 = .ok (.invokevirtual 17, 3) := wtX5_shift_24.2.2.2.2.2.2.2.2.2.2.2.1
theorem wtX5_shift_48 : dwcj cX5_shift 48 [(0, .ifCond .eq 5, 3), (3, .iconst 0, 1), (4, .ireturn, 1), (5, .iload_n 2, 1), (6, .ifCond .ge 20, 3), (9, .aload_n 0, 1), (10, .iload_n 3, 1), (11, .aload_n 0, 1), (12, .getfield 7, 3), (15, .iload_n 1, 1), (16, .laload, 1), (17, .iload_n 2, 1), (18, .ineg, 1), (19, .lushr, 1), (20, .invokevirtual 59, 3), (23, .goto 37, 3)] := dw_all (l := [153, 0, 5, 3, 172, 28, 156, 0, 20, 42, 29, 42, 180, 0, 7, 27, 47, 28, 116, 125, 182, 0, 59, 167, 0, 37]) (by decide +kernel)
theorem dX5_shift_48 : decode cX5_shift 48 = .ok (.ifCond .eq 5, 3) := wtX5_shift_48.1
theorem dX5_shift_51 : decode cX5_shift 51 = .ok (.iconst 0, 1) := wtX5_shift_48.2.1
theorem dX5_shift_52 : decode cX5_shift 52 = .ok (.ireturn, 1) := wtX5_shift_48.2.2.1
theorem dX5_shift_53 : decode cX5_shift 53 = .ok (.iload_n 2, 1) := wtX5_shift_48.2.2.2.1
theorem dX5_shift_54 : decode cX5_shift 54 = .ok (.ifCond .ge 20, 3) := wtX5_shift_48.2.2.2.2.1
theorem dX5_shift_57 : decode cX5_shift 57 = .ok (.aload_n 0, 1) := wtX5_shift_48.2.2.2.2.2.1
theorem dX5_shift_58 : decode cX5_shift 58 = .ok (.iload_n 3, 1) := wtX5_shift_48.2.2.2.2.2.2.1
theorem dX5_shift_59 : decode cX5_shift 59 = .ok (.aload_n 0, 1) := wtX5_shift_48.2.2.2.2.2.2.2.1
theorem dX5_shift_60 : decode cX5_shift 60 = .ok (.getfield 7, 3) := wtX5_shift_48.2.2.2.2.2.2.2.2.1
theorem dX5_shift_63 : decode cX5_shift 63 = .ok (.iload_n 1, 1) := wtX5_shift_48.2.2.2.2.2.2.2.2.2.1
theorem dX5_shift_64 : decode cX5_shift 64 = .ok (.laload, 1) := wtX5_shift_48.2.2.2.2.2.2.2.2.2.2.1
theorem dX5_shift_65 : decode cX5_shift 65 = .ok (.iload_n 2, 1) := wtX5_shift_48.2.2.2.2.2.2.2.2.2.2.2.1
theorem dX5_shift_66 : decode cX5_shift 66 = .ok (.ineg, 1) := wtX5_shift_48.2.2.2.2.2.2.2.2.2.2.2.2.1
theorem dX5_shift_67 : decode cX5_shift 67 = .ok (.lushr, 1) := wtX5_shift_48.2.2.2.2.2.2.2.2.2.2.2.2.2.1
theorem dX5_shift_68 : decode cX5_shift 68 = .ok (.invokevirtual 59, 3) := wtX5_shift_48.2.2.2.2.2.2.2.2.2.2.2.2.2.2.1
theorem dX5_shift_71 : decode cX5_shift 71 = .ok (.goto 37, 3) := wtX5_shift_48.2.2.2.2.2.2.2.2.2.2.2.2.2.2.2.1
theorem wtX5_shift_74 : dwcj cX5_shift 74 [(0, .aload_n 0, 1), (1, .aload_n 0, 1), (2, .getfield 7, 3), (5, .iload_n 1, 1), (6, .laload, 1), (7, .invokestatic 33, 3), (10, .iload_n 2, 1), (11, .iadd, 1), (12, .bipush 32, 2), (14, .if_icmp .gt 7, 3), (17, .iconst 1, 1), (18, .goto 4, 3), (21, .iconst 0, 1), (22, .iload_n 3, 1), (23, .aload_n 0, 1)] := dw_all (l := [42, 42, 180, 0, 7, 27, 47, 184, 0, 33, 28, 96, 16, 32, 163, 0, 7, 4, 167, 0, 4, 3, 29, 42]) (by decide +kernel)
theorem dX5_shift_74 : decode cX5_shift 74 = .ok (.aload_n 0, 1) := wtX5_shift_74.1
theorem dX5_shift_75 : decode cX5_shift 75 = .ok (.aload_n 0, 1) := wtX5_shift_74.2.1
theorem dX5_shift_76 : decode cX5_shift 76 = .ok (.getfield 7, 3) := wtX5_shift_74.2.2.1
theorem dX5_shift_79 : decode cX5_shift 79 = .ok (.iload_n 1, 1) := wtX5_shift_74.2.2.2.1
theorem dX5_shift_80 : decode cX5_shift 80 = .ok (.laload, 1) := wtX5_shift_74.2.2.2.2.1
theorem dX5_shift_81 : decode cX5_shift 81 = .ok (.invokestatic 33, 3) := wtX5_shift_74.2.2.2.2.2.1
theorem dX5_shift_84 : decode cX5_shift 84 = .ok (.iload_n 2, 1) := wtX5_shift_74.2.2.2.2.2.2.1
theorem dX5_shift_85 : decode cX5_shift 85 = .ok (.iadd, 1) := wtX5_shift_74.2.2.2.2.2.2.2.1
theorem dX5_shift_86 : decode cX5_shift 86 = .ok (.bipush 32, 2) := wtX5_shift_74.2.2.2.2.2.2.2.2.1
theorem dX5_shift_88 : decode cX5_shift 88 = .ok (.if_icmp .gt 7, 3) := wtX5_shift_74.2.2.2.2.2.2.2.2.2.1
theorem dX5_shift_91 : decode cX5_shift 91 = .ok (.iconst 1, 1) := wtX5_shift_74.2.2.2.2.2.2.2.2.2.2.1
theorem dX5_shift_92 : decode cX5_shift 92 = .ok (.goto 4, 3) := wtX5_shift_74.2.2.2.2.2.2.2.2.2.2.2.1
theorem dX5_shift_95 : decode cX5_shift 95 = .ok (.iconst 0, 1) := wtX5_shift_74.2.2.2.2.2.2.2.2.2.2.2.2.1
theorem dX5_shift_96 : decode cX5_shift 96 = .ok (.iload_n 3, 1) := wtX5_shift_74.2.2.2.2.2.2.2.2.2.2.2.2.2.1
theorem dX5_shift_97 : decode cX5_shift 97 = .ok (.aload_n 0, 1) := wtX5_shift_74.2.2.2.2.2.2.2.2.2.2.2.2.2.2.1
theorem wtX5_shift_98 : dwcj cX5_shift 98 [(0, .getfield 7, 3), (3, .iload_n 1, 1), (4, .laload, 1), (5, .iload_n 2, 1), (6, .lshl, 1), (7, .invokevirtual 86, 3), (10, .ireturn, 1)] := dw_all (l := [180, 0, 7, 27, 47, 28, 121, 182, 0, 86, 172]) (by decide +kernel)
theorem dX5_shift_98 : decode cX5_shift 98 = .ok (.getfield 7, 3) := wtX5_shift_98.1
theorem dX5_shift_101 : decode cX5_shift 101 = .ok (.iload_n 1, 1) := wtX5_shift_98.2.1
theorem dX5_shift_102 : decode cX5_shift 102 = .ok (.laload, 1) := wtX5_shift_98.2.2.1
theorem dX5_shift_103 : decode cX5_shift 103 = .ok (.iload_n 2, 1) := wtX5_shift_98.2.2.2.1
theorem dX5_shift_104 : decode cX5_shift 104 = .ok (.lshl, 1) := wtX5_shift_98.2.2.2.2.1
theorem dX5_shift_105 : decode cX5_shift 105 = .ok (.invokevirtual 86, 3) := wtX5_shift_98.2.2.2.2.2.1
theorem dX5_shift_108 : decode cX5_shift 108 = .ok (.ireturn, 1) := wtX5_shift_98.2.2.2.2.2.2.1
theorem wtX5_quotient_0 : dwcj cX5_quotient 0 [(0, .aload_n 0, 1), (1, .iload_n 1, 1), (2, .invokestatic 67, 3), (5, .ifCond .ne 17, 3), (8, .iload_n 2, 1), (9, .invokestatic 67, 3), (12, .ifCond .ne 10, 3), (15, .iload_n 3, 1), (16, .invokestatic 67, 3), (19, .ifCond .eq 7, 3), (22, .iconst 1, 1), (23, .goto 4, 3)] := dw_all (l := [42, 27, 184, 0, 67, 154, 0, 17, 28, 184, 0, 67, 154, 0, 10, 29, 184, 0, 67, 153, 0, 7, 4, 167, 0, 4]) (by decide +kernel)
theorem dX5_quotient_0 : decode cX5_quotient 0 = .ok (.aload_n 0, 1) := wtX5_quotient_0.1
theorem dX5_quotient_1 : decode cX5_quotient 1 = .ok (.iload_n 1, 1) := wtX5_quotient_0.2.1
theorem dX5_quotient_2 : decode cX5_quotient 2 = .ok (.invokestatic 67, 3) := wtX5_quotient_0.2.2.1
theorem dX5_quotient_5 : decode cX5_quotient 5 = .ok (.ifCond .ne 17, 3) := wtX5_quotient_0.2.2.2.1
theorem dX5_quotient_8 : decode cX5_quotient 8 = .ok (.iload_n 2, 1) := wtX5_quotient_0.2.2.2.2.1
theorem dX5_quotient_9 : decode cX5_quotient 9 = .ok (.invokestatic 67, 3) := wtX5_quotient_0.2.2.2.2.2.1
theorem dX5_quotient_12 : decode cX5_quotient 12 = .ok (.ifCond .ne 10, 3) := wtX5_quotient_0.2.2.2.2.2.2.1
theorem dX5_quotient_15 : decode cX5_quotient 15 = .ok (.iload_n 3, 1) := wtX5_quotient_0.2.2.2.2.2.2.2.1
theorem dX5_quotient_16 : decode cX5_quotient 16 = .ok (.invokestatic 67, 3) := wtX5_quotient_0.2.2.2.2.2.2.2.2.1
theorem dX5_quotient_19 : decode cX5_quotient 19 = .ok (.ifCond .eq 7, 3) := wtX5_quotient_0.2.2.2.2.2.2.2.2.2.1
theorem dX5_quotient_22 : decode cX5_quotient 22 = .ok (.iconst 1, 1) := wtX5_quotient_0.2.2.2.2.2.2.2.2.2.2.1
theorem dX5_quotient_23 : decode cX5_quotient 23 = .ok (.goto 4, 3) := wtX5_quotient_0.2.2.2.2.2.2.2.2.2.2.2.1
theorem wtX5_quotient_26 : dwcj cX5_quotient 26 [(0, .iconst 0, 1), (1, .iconst 1, 1), (2, .invokevirtual 71, 3), (5, .ifCond .eq 5, 3), (8, .iconst 0, 1), (9, .ireturn, 1), (10, .aload_n 0, 1), (11, .getfield 7, 3), (14, .iload_n 2, 1), (15, .laload, 1), (16, .lconst 0, 1), (17, .lcmp, 1), (18, .ifCond .ne 10, 3), (21, .aload_n 0, 1), (22, .invokevirtual 63, 3)] := dw_all (l := [3, 4, 182, 0, 71, 153, 0, 5, 3, 172, 42, 180, 0, 7, 28, 47, 9, 148, 154, 0, 10, 42, 182, 0, 63]) (by decide +kernel)
theorem dX5_quotient_26 : decode cX5_quotient 26 = .ok (.iconst 0, 1) := wtX5_quotient_26.1
theorem dX5_quotient_27 : decode cX5_quotient 27 = .ok (.iconst 1, 1) := wtX5_quotient_26.2.1
theorem dX5_quotient_28 : decode cX5_quotient 28 = .ok (.invokevirtual 71, 3) := wtX5_quotient_26.2.2.1
theorem dX5_quotient_31 : decode cX5_quotient 31 = .ok (.ifCond .eq 5, 3) := wtX5_quotient_26.2.2.2.1
theorem dX5_quotient_34 : decode cX5_quotient 34 = .ok (.iconst 0, 1) := wtX5_quotient_26.2.2.2.2.1
theorem dX5_quotient_35 : decode cX5_quotient 35 = .ok (.ireturn, 1) := wtX5_quotient_26.2.2.2.2.2.1
theorem dX5_quotient_36 : decode cX5_quotient 36 = .ok (.aload_n 0, 1) := wtX5_quotient_26.2.2.2.2.2.2.1
theorem dX5_quotient_37 : decode cX5_quotient 37 = .ok (.getfield 7, 3) := wtX5_quotient_26.2.2.2.2.2.2.2.1
theorem dX5_quotient_40 : decode cX5_quotient 40 = .ok (.iload_n 2, 1) := wtX5_quotient_26.2.2.2.2.2.2.2.2.1
theorem dX5_quotient_41 : decode cX5_quotient 41 = .ok (.laload, 1) := wtX5_quotient_26.2.2.2.2.2.2.2.2.2.1
theorem dX5_quotient_42 : decode cX5_quotient 42 = .ok (.lconst 0, 1) := wtX5_quotient_26.2.2.2.2.2.2.2.2.2.2.1
theorem dX5_quotient_43 : decode cX5_quotient 43 = .ok (.lcmp, 1) := wtX5_quotient_26.2.2.2.2.2.2.2.2.2.2.2.1
theorem dX5_quotient_44 : decode cX5_quotient 44 = .ok (.ifCond .ne 10, 3) := wtX5_quotient_26.2.2.2.2.2.2.2.2.2.2.2.2.1
theorem dX5_quotient_47 : decode cX5_quotient 47 = .ok (.aload_n 0, 1) := wtX5_quotient_26.2.2.2.2.2.2.2.2.2.2.2.2.2.1
theorem dX5_quotient_48 : decode cX5_quotient 48 = .ok (.invokevirtual 63, 3) := wtX5_quotient_26.2.2.2.2.2.2.2.2.2.2.2.2.2.2.1
theorem wtX5_quotient_51 : dwcj cX5_quotient 51 [(0, .goto 23, 3), (3, .aload_n 0, 1), (4, .iload_n 3, 1), (5, .aload_n 0, 1), (6, .getfield 7, 3), (9, .iload_n 1, 1), (10, .laload, 1), (11, .aload_n 0, 1), (12, .getfield 7, 3), (15, .iload_n 2, 1), (16, .laload, 1), (17, .invokestatic 37, 3), (20, .invokevirtual 59, 3), (23, .ireturn, 1)] := dw_all (l := [167, 0, 23, 42, 29, 42, 180, 0, 7, 27, 47, 42, 180, 0, 7, 28, 47, 184, 0, 37, 182, 0, 59, 172]) (by decide +kernel)
theorem dX5_quotient_51 : decode cX5_quotient 51 = .ok (.goto 23, 3) := wtX5_quotient_51.1
theorem dX5_quotient_54 : decode cX5_quotient 54 = .ok (.aload_n 0, 1) := wtX5_quotient_51.2.1
theorem dX5_quotient_55 : decode cX5_quotient 55 = .ok (.iload_n 3, 1) := wtX5_quotient_51.2.2.1
theorem dX5_quotient_56 : decode cX5_quotient 56 = .ok (.aload_n 0, 1) := wtX5_quotient_51.2.2.2.1
theorem dX5_quotient_57 : decode cX5_quotient 57 = .ok (.getfield 7, 3) := wtX5_quotient_51.2.2.2.2.1
theorem dX5_quotient_60 : decode cX5_quotient 60 = .ok (.iload_n 1, 1) := wtX5_quotient_51.2.2.2.2.2.1
theorem dX5_quotient_61 : decode cX5_quotient 61 = .ok (.laload, 1) := wtX5_quotient_51.2.2.2.2.2.2.1
theorem dX5_quotient_62 : decode cX5_quotient 62 = .ok (.aload_n 0, 1) := wtX5_quotient_51.2.2.2.2.2.2.2.1
theorem dX5_quotient_63 : decode cX5_quotient 63 = .ok (.getfield 7, 3) := wtX5_quotient_51.2.2.2.2.2.2.2.2.1
theorem dX5_quotient_66 : decode cX5_quotient 66 = .ok (.iload_n 2, 1) := wtX5_quotient_51.2.2.2.2.2.2.2.2.2.1
theorem dX5_quotient_67 : decode cX5_quotient 67 = .ok (.laload, 1) := wtX5_quotient_51.2.2.2.2.2.2.2.2.2.2.1
theorem dX5_quotient_68 : decode cX5_quotient 68 = .ok (.invokestatic 37, 3) := wtX5_quotient_51.2.2.2.2.2.2.2.2.2.2.2.1
theorem dX5_quotient_71 : decode cX5_quotient 71 = .ok (.invokevirtual 59, 3) := wtX5_quotient_51.2.2.2.2.2.2.2.2.2.2.2.2.1
theorem dX5_quotient_74 : decode cX5_quotient 74 = .ok (.ireturn, 1) := wtX5_quotient_51.2.2.2.2.2.2.2.2.2.2.2.2.2.1
theorem wtX5_rest_0 : dwcj cX5_rest 0 [(0, .aload_n 0, 1), (1, .iload_n 1, 1), (2, .invokestatic 67, 3), (5, .ifCond .ne 17, 3), (8, .iload_n 2, 1), (9, .invokestatic 67, 3), (12, .ifCond .ne 10, 3), (15, .iload_n 3, 1), (16, .invokestatic 67, 3), (19, .ifCond .eq 7, 3), (22, .iconst 1, 1), (23, .goto 4, 3)] := dw_all (l := [42, 27, 184, 0, 67, 154, 0, 17, 28, 184, 0, 67, 154, 0, 10, 29, 184, 0, 67, 153, 0, 7, 4, 167, 0, 4]) (by decide +kernel)
theorem dX5_rest_0 : decode cX5_rest 0 = .ok (.aload_n 0, 1) := wtX5_rest_0.1
theorem dX5_rest_1 : decode cX5_rest 1 = .ok (.iload_n 1, 1) := wtX5_rest_0.2.1
theorem dX5_rest_2 : decode cX5_rest 2 = .ok (.invokestatic 67, 3) := wtX5_rest_0.2.2.1
theorem dX5_rest_5 : decode cX5_rest 5 = .ok (.ifCond .ne 17, 3) := wtX5_rest_0.2.2.2.1
theorem dX5_rest_8 : decode cX5_rest 8 = .ok (.iload_n 2, 1) := wtX5_rest_0.2.2.2.2.1
theorem dX5_rest_9 : decode cX5_rest 9 = .ok (.invokestatic 67, 3) := wtX5_rest_0.2.2.2.2.2.1
theorem dX5_rest_12 : decode cX5_rest 12 = .ok (.ifCond .ne 10, 3) := wtX5_rest_0.2.2.2.2.2.2.1
theorem dX5_rest_15 : decode cX5_rest 15 = .ok (.iload_n 3, 1) := wtX5_rest_0.2.2.2.2.2.2.2.1
theorem dX5_rest_16 : decode cX5_rest 16 = .ok (.invokestatic 67, 3) := wtX5_rest_0.2.2.2.2.2.2.2.2.1
theorem dX5_rest_19 : decode cX5_rest 19 = .ok (.ifCond .eq 7, 3) := wtX5_rest_0.2.2.2.2.2.2.2.2.2.1
theorem dX5_rest_22 : decode cX5_rest 22 = .ok (.iconst 1, 1) := wtX5_rest_0.2.2.2.2.2.2.2.2.2.2.1
theorem dX5_rest_23 : decode cX5_rest 23 = .ok (.goto 4, 3) := wtX5_rest_0.2.2.2.2.2.2.2.2.2.2.2.1
theorem wtX5_rest_26 : dwcj cX5_rest 26 [(0, .iconst 0, 1), (1, .iconst 1, 1), (2, .invokevirtual 71, 3), (5, .ifCond .eq 5, 3), (8, .iconst 0, 1), (9, .ireturn, 1), (10, .aload_n 0, 1), (11, .getfield 7, 3), (14, .iload_n 2, 1), (15, .laload, 1), (16, .lconst 0, 1), (17, .lcmp, 1), (18, .ifCond .ne 10, 3), (21, .aload_n 0, 1), (22, .invokevirtual 63, 3)] := dw_all (l := [3, 4, 182, 0, 71, 153, 0, 5, 3, 172, 42, 180, 0, 7, 28, 47, 9, 148, 154, 0, 10, 42, 182, 0, 63]) (by decide +kernel)
theorem dX5_rest_26 : decode cX5_rest 26 = .ok (.iconst 0, 1) := wtX5_rest_26.1
theorem dX5_rest_27 : decode cX5_rest 27 = .ok (.iconst 1, 1) := wtX5_rest_26.2.1
theorem dX5_rest_28 : decode cX5_rest 28 = .ok (.invokevirtual 71, 3) := wtX5_rest_26.2.2.1
theorem dX5_rest_31 : decode cX5_rest 31 = .ok (.ifCond .eq 5, 3) := wtX5_rest_26.2.2.2.1
theorem dX5_rest_34 : decode cX5_rest 34 = .ok (.iconst 0, 1) := wtX5_rest_26.2.2.2.2.1
theorem dX5_rest_35 : decode cX5_rest 35 = .ok (.ireturn, 1) := wtX5_rest_26.2.2.2.2.2.1
theorem dX5_rest_36 : decode cX5_rest 36 = .ok (.aload_n 0, 1) := wtX5_rest_26.2.2.2.2.2.2.1
theorem dX5_rest_37 : decode cX5_rest 37 = .ok (.getfield 7, 3) := wtX5_rest_26.2.2.2.2.2.2.2.1
theorem dX5_rest_40 : decode cX5_rest 40 = .ok (.iload_n 2, 1) := wtX5_rest_26.2.2.2.2.2.2.2.2.1
theorem dX5_rest_41 : decode cX5_rest 41 = .ok (.laload, 1) := wtX5_rest_26.2.2.2.2.2.2.2.2.2.1
theorem dX5_rest_42 : decode cX5_rest 42 = .ok (.lconst 0, 1) := wtX5_rest_26.2.2.2.2.2.2.2.2.2.2.1
theorem dX5_rest_43 : decode cX5_rest 43 = .ok (.lcmp, 1) := wtX5_rest_26.2.2.2.2.2.2.2.2.2.2.2.1
theorem dX5_rest_44 : decode cX5_rest 44 = .ok (.ifCond .ne 10, 3) := wtX5_rest_26.2.2.2.2.2.2.2.2.2.2.2.2.1
theorem dX5_rest_47 : decode cX5_rest 47 = .ok (.aload_n 0, 1) := wtX5_rest_26.2.2.2.2.2.2.2.2.2.2.2.2.2.1
theorem dX5_rest_48 : decode cX5_rest 48 = .ok (.invokevirtual 63, 3) := wtX5_rest_26.2.2.2.2.2.2.2.2.2.2.2.2.2.2.1
theorem wtX5_rest_51 : dwcj cX5_rest 51 [(0, .goto 23, 3), (3, .aload_n 0, 1), (4, .iload_n 3, 1), (5, .aload_n 0, 1), (6, .getfield 7, 3), (9, .iload_n 1, 1), (10, .laload, 1), (11, .aload_n 0, 1), (12, .getfield 7, 3), (15, .iload_n 2, 1), (16, .laload, 1), (17, .invokestatic 46, 3), (20, .invokevirtual 59, 3), (23, .ireturn, 1)] := dw_all (l := [167, 0, 23, 42, 29, 42, 180, 0, 7, 27, 47, 42, 180, 0, 7, 28, 47, 184, 0, 46, 182, 0, 59, 172]) (by decide +kernel)
theorem dX5_rest_51 : decode cX5_rest 51 = .ok (.goto 23, 3) := wtX5_rest_51.1
theorem dX5_rest_54 : decode cX5_rest 54 = .ok (.aload_n 0, 1) := wtX5_rest_51.2.1
theorem dX5_rest_55 : decode cX5_rest 55 = .ok (.iload_n 3, 1) := wtX5_rest_51.2.2.1
theorem dX5_rest_56 : decode cX5_rest 56 = .ok (.aload_n 0, 1) := wtX5_rest_51.2.2.2.1
theorem dX5_rest_57 : decode cX5_rest 57 = .ok (.getfield 7, 3) := wtX5_rest_51.2.2.2.2.1
theorem dX5_rest_60 : decode cX5_rest 60 = .ok (.iload_n 1, 1) := wtX5_rest_51.2.2.2.2.2.1
theorem dX5_rest_61 : decode cX5_rest 61 = .ok (.laload, 1) := wtX5_rest_51.2.2.2.2.2.2.1
theorem dX5_rest_62 : decode cX5_rest 62 = .ok (.aload_n 0, 1) := wtX5_rest_51.2.2.2.2.2.2.2.1
theorem dX5_rest_63 : decode cX5_rest 63 = .ok (.getfield 7, 3) := wtX5_rest_51.2.2.2.2.2.2.2.2.1
theorem dX5_rest_66 : decode cX5_rest 66 = .ok (.iload_n 2, 1) := wtX5_rest_51.2.2.2.2.2.2.2.2.2.1
theorem dX5_rest_67 : decode cX5_rest 67 = .ok (.laload, 1) := wtX5_rest_51.2.2.2.2.2.2.2.2.2.2.1
theorem dX5_rest_68 : decode cX5_rest 68 = .ok (.invokestatic 46, 3) := wtX5_rest_51.2.2.2.2.2.2.2.2.2.2.2.1
theorem dX5_rest_71 : decode cX5_rest 71 = .ok (.invokevirtual 59, 3) := wtX5_rest_51.2.2.2.2.2.2.2.2.2.2.2.2.1
theorem dX5_rest_74 : decode cX5_rest 74 = .ok (.ireturn, 1) := wtX5_rest_51.2.2.2.2.2.2.2.2.2.2.2.2.2.1
theorem wtX5_gcd_0 : dwcj cX5_gcd 0 [(0, .aload_n 0, 1), (1, .iload_n 1, 1), (2, .invokestatic 67, 3), (5, .ifCond .ne 17, 3), (8, .iload_n 2, 1), (9, .invokestatic 67, 3), (12, .ifCond .ne 10, 3), (15, .iload_n 3, 1), (16, .invokestatic 67, 3), (19, .ifCond .eq 7, 3), (22, .iconst 1, 1), (23, .goto 4, 3)] := dw_all (l := [42, 27, 184, 0, 67, 154, 0, 17, 28, 184, 0, 67, 154, 0, 10, 29, 184, 0, 67, 153, 0, 7, 4, 167, 0, 4]) (by decide +kernel)
theorem dX5_gcd_0 : decode cX5_gcd 0 = .ok (.aload_n 0, 1) := wtX5_gcd_0.1
theorem dX5_gcd_1 : decode cX5_gcd 1 = .ok (.iload_n 1, 1) := wtX5_gcd_0.2.1
theorem dX5_gcd_2 : decode cX5_gcd 2 = .ok (.invokestatic 67, 3) := wtX5_gcd_0.2.2.1
theorem dX5_gcd_5 : decode cX5_gcd 5 = .ok (.ifCond .ne 17, 3) := wtX5_gcd_0.2.2.2.1
theorem dX5_gcd_8 : decode cX5_gcd 8 = .ok (.iload_n 2, 1) := wtX5_gcd_0.2.2.2.2.1
theorem dX5_gcd_9 : decode cX5_gcd 9 = .ok (.invokestatic 67, 3) := wtX5_gcd_0.2.2.2.2.2.1
theorem dX5_gcd_12 : decode cX5_gcd 12 = .ok (.ifCond .ne 10, 3) := wtX5_gcd_0.2.2.2.2.2.2.1
theorem dX5_gcd_15 : decode cX5_gcd 15 = .ok (.iload_n 3, 1) := wtX5_gcd_0.2.2.2.2.2.2.2.1
theorem dX5_gcd_16 : decode cX5_gcd 16 = .ok (.invokestatic 67, 3) := wtX5_gcd_0.2.2.2.2.2.2.2.2.1
theorem dX5_gcd_19 : decode cX5_gcd 19 = .ok (.ifCond .eq 7, 3) := wtX5_gcd_0.2.2.2.2.2.2.2.2.2.1
theorem dX5_gcd_22 : decode cX5_gcd 22 = .ok (.iconst 1, 1) := wtX5_gcd_0.2.2.2.2.2.2.2.2.2.2.1
theorem dX5_gcd_23 : decode cX5_gcd 23 = .ok (.goto 4, 3) := wtX5_gcd_0.2.2.2.2.2.2.2.2.2.2.2.1
theorem wtX5_gcd_26 : dwcj cX5_gcd 26 [(0, .iconst 0, 1), (1, .iconst 1, 1), (2, .invokevirtual 71, 3), (5, .ifCond .eq 7, 3), (8, .iconst 0, 1), (9, .goto 24, 3), (12, .aload_n 0, 1), (13, .iload_n 3, 1), (14, .aload_n 0, 1), (15, .getfield 7, 3), (18, .iload_n 1, 1), (19, .laload, 1), (20, .aload_n 0, 1), (21, .getfield 7, 3)] := dw_all (l := [3, 4, 182, 0, 71, 153, 0, 7, 3, 167, 0, 24, 42, 29, 42, 180, 0, 7, 27, 47, 42, 180, 0, 7]) (by decide +kernel)
theorem dX5_gcd_26 : decode cX5_gcd 26 = .ok (.iconst 0, 1) := wtX5_gcd_26.1
theorem dX5_gcd_27 : decode cX5_gcd 27 = .ok (.iconst 1, 1) := wtX5_gcd_26.2.1
theorem dX5_gcd_28 : decode cX5_gcd 28 = .ok (.invokevirtual 71, 3) := wtX5_gcd_26.2.2.1
theorem dX5_gcd_31 : decode cX5_gcd 31 = .ok (.ifCond .eq 7, 3) := wtX5_gcd_26.2.2.2.1
theorem dX5_gcd_34 : decode cX5_gcd 34 = .ok (.iconst 0, 1) := wtX5_gcd_26.2.2.2.2.1
theorem dX5_gcd_35 : decode cX5_gcd 35 = .ok (.goto 24, 3) := wtX5_gcd_26.2.2.2.2.2.1
theorem dX5_gcd_38 : decode cX5_gcd 38 = .ok (.aload_n 0, 1) := wtX5_gcd_26.2.2.2.2.2.2.1
theorem dX5_gcd_39 : decode cX5_gcd 39 = .ok (.iload_n 3, 1) := wtX5_gcd_26.2.2.2.2.2.2.2.1
theorem dX5_gcd_40 : decode cX5_gcd 40 = .ok (.aload_n 0, 1) := wtX5_gcd_26.2.2.2.2.2.2.2.2.1
theorem dX5_gcd_41 : decode cX5_gcd 41 = .ok (.getfield 7, 3) := wtX5_gcd_26.2.2.2.2.2.2.2.2.2.1
theorem dX5_gcd_44 : decode cX5_gcd 44 = .ok (.iload_n 1, 1) := wtX5_gcd_26.2.2.2.2.2.2.2.2.2.2.1
theorem dX5_gcd_45 : decode cX5_gcd 45 = .ok (.laload, 1) := wtX5_gcd_26.2.2.2.2.2.2.2.2.2.2.2.1
theorem dX5_gcd_46 : decode cX5_gcd 46 = .ok (.aload_n 0, 1) := wtX5_gcd_26.2.2.2.2.2.2.2.2.2.2.2.2.1
theorem dX5_gcd_47 : decode cX5_gcd 47 = .ok (.getfield 7, 3) := wtX5_gcd_26.2.2.2.2.2.2.2.2.2.2.2.2.2.1
theorem wtX5_gcd_50 : dwcj cX5_gcd 50 [(0, .iload_n 2, 1), (1, .laload, 1), (2, .iconst 0, 1), (3, .invokestatic 94, 3), (6, .invokevirtual 59, 3), (9, .ireturn, 1)] := dw_all (l := [28, 47, 3, 184, 0, 94, 182, 0, 59, 172]) (by decide +kernel)
theorem dX5_gcd_50 : decode cX5_gcd 50 = .ok (.iload_n 2, 1) := wtX5_gcd_50.1
theorem dX5_gcd_51 : decode cX5_gcd 51 = .ok (.laload, 1) := wtX5_gcd_50.2.1
theorem dX5_gcd_52 : decode cX5_gcd 52 = .ok (.iconst 0, 1) := wtX5_gcd_50.2.2.1
theorem dX5_gcd_53 : decode cX5_gcd 53 = .ok (.invokestatic 94, 3) := wtX5_gcd_50.2.2.2.1
theorem dX5_gcd_56 : decode cX5_gcd 56 = .ok (.invokevirtual 59, 3) := wtX5_gcd_50.2.2.2.2.1
theorem dX5_gcd_59 : decode cX5_gcd 59 = .ok (.ireturn, 1) := wtX5_gcd_50.2.2.2.2.2.1
theorem wtX5_lcm_0 : dwcj cX5_lcm 0 [(0, .aload_n 0, 1), (1, .iload_n 1, 1), (2, .invokestatic 67, 3), (5, .ifCond .ne 17, 3), (8, .iload_n 2, 1), (9, .invokestatic 67, 3), (12, .ifCond .ne 10, 3), (15, .iload_n 3, 1), (16, .invokestatic 67, 3), (19, .ifCond .eq 7, 3), (22, .iconst 1, 1), (23, .goto 4, 3)] := dw_all (l := [42, 27, 184, 0, 67, 154, 0, 17, 28, 184, 0, 67, 154, 0, 10, 29, 184, 0, 67, 153, 0, 7, 4, 167, 0, 4]) (by decide +kernel)
theorem dX5_lcm_0 : decode cX5_lcm 0 = .ok (.aload_n 0, 1) := wtX5_lcm_0.1
theorem dX5_lcm_1 : decode cX5_lcm 1 = .ok (.iload_n 1, 1) := wtX5_lcm_0.2.1
theorem dX5_lcm_2 : decode cX5_lcm 2 = .ok (.invokestatic 67, 3) := wtX5_lcm_0.2.2.1
theorem dX5_lcm_5 : decode cX5_lcm 5 = .ok (.ifCond .ne 17, 3) := wtX5_lcm_0.2.2.2.1
theorem dX5_lcm_8 : decode cX5_lcm 8 = .ok (.iload_n 2, 1) := wtX5_lcm_0.2.2.2.2.1
theorem dX5_lcm_9 : decode cX5_lcm 9 = .ok (.invokestatic 67, 3) := wtX5_lcm_0.2.2.2.2.2.1
theorem dX5_lcm_12 : decode cX5_lcm 12 = .ok (.ifCond .ne 10, 3) := wtX5_lcm_0.2.2.2.2.2.2.1
theorem dX5_lcm_15 : decode cX5_lcm 15 = .ok (.iload_n 3, 1) := wtX5_lcm_0.2.2.2.2.2.2.2.1
theorem dX5_lcm_16 : decode cX5_lcm 16 = .ok (.invokestatic 67, 3) := wtX5_lcm_0.2.2.2.2.2.2.2.2.1
theorem dX5_lcm_19 : decode cX5_lcm 19 = .ok (.ifCond .eq 7, 3) := wtX5_lcm_0.2.2.2.2.2.2.2.2.2.1
theorem dX5_lcm_22 : decode cX5_lcm 22 = .ok (.iconst 1, 1) := wtX5_lcm_0.2.2.2.2.2.2.2.2.2.2.1
theorem dX5_lcm_23 : decode cX5_lcm 23 = .ok (.goto 4, 3) := wtX5_lcm_0.2.2.2.2.2.2.2.2.2.2.2.1
theorem wtX5_lcm_26 : dwcj cX5_lcm 26 [(0, .iconst 0, 1), (1, .iconst 1, 1), (2, .invokevirtual 71, 3), (5, .ifCond .eq 5, 3), (8, .iconst 0, 1), (9, .ireturn, 1), (10, .aload_n 0, 1), (11, .getfield 7, 3), (14, .iload_n 1, 1), (15, .laload, 1), (16, .lconst 0, 1), (17, .lcmp, 1), (18, .ifCond .eq 14, 3), (21, .aload_n 0, 1), (22, .getfield 7, 3)] := dw_all (l := [3, 4, 182, 0, 71, 153, 0, 5, 3, 172, 42, 180, 0, 7, 27, 47, 9, 148, 153, 0, 14, 42, 180, 0, 7]) (by decide +kernel)
theorem dX5_lcm_26 : decode cX5_lcm 26 = .ok (.iconst 0, 1) := wtX5_lcm_26.1
theorem dX5_lcm_27 : decode cX5_lcm 27 = .ok (.iconst 1, 1) := wtX5_lcm_26.2.1
theorem dX5_lcm_28 : decode cX5_lcm 28 = .ok (.invokevirtual 71, 3) := wtX5_lcm_26.2.2.1
theorem dX5_lcm_31 : decode cX5_lcm 31 = .ok (.ifCond .eq 5, 3) := wtX5_lcm_26.2.2.2.1
theorem dX5_lcm_34 : decode cX5_lcm 34 = .ok (.iconst 0, 1) := wtX5_lcm_26.2.2.2.2.1
theorem dX5_lcm_35 : decode cX5_lcm 35 = .ok (.ireturn, 1) := wtX5_lcm_26.2.2.2.2.2.1
theorem dX5_lcm_36 : decode cX5_lcm 36 = .ok (.aload_n 0, 1) := wtX5_lcm_26.2.2.2.2.2.2.1
theorem dX5_lcm_37 : decode cX5_lcm 37 = .ok (.getfield 7, 3) := wtX5_lcm_26.2.2.2.2.2.2.2.1
theorem dX5_lcm_40 : decode cX5_lcm 40 = .ok (.iload_n 1, 1) := wtX5_lcm_26.2.2.2.2.2.2.2.2.1
theorem dX5_lcm_41 : decode cX5_lcm 41 = .ok (.laload, 1) := wtX5_lcm_26.2.2.2.2.2.2.2.2.2.1
theorem dX5_lcm_42 : decode cX5_lcm 42 = .ok (.lconst 0, 1) := wtX5_lcm_26.2.2.2.2.2.2.2.2.2.2.1
theorem dX5_lcm_43 : decode cX5_lcm 43 = .ok (.lcmp, 1) := wtX5_lcm_26.2.2.2.2.2.2.2.2.2.2.2.1
theorem dX5_lcm_44 : decode cX5_lcm 44 = .ok (.ifCond .eq 14, 3) := wtX5_lcm_26.2.2.2.2.2.2.2.2.2.2.2.2.1
theorem dX5_lcm_47 : decode cX5_lcm 47 = .ok (.aload_n 0, 1) := wtX5_lcm_26.2.2.2.2.2.2.2.2.2.2.2.2.2.1
theorem dX5_lcm_48 : decode cX5_lcm 48 = .ok (.getfield 7, 3) := wtX5_lcm_26.2.2.2.2.2.2.2.2.2.2.2.2.2.2.1
theorem wtX5_lcm_51 : dwcj cX5_lcm 51 [(0, .iload_n 2, 1), (1, .laload, 1), (2, .lconst 0, 1), (3, .lcmp, 1), (4, .ifCond .ne 10, 3), (7, .aload_n 0, 1), (8, .iload_n 3, 1), (9, .lconst 0, 1), (10, .invokevirtual 59, 3), (13, .ireturn, 1), (14, .aload_n 0, 1), (15, .aload_n 0, 1), (16, .getfield 7, 3), (19, .iload_n 1, 1), (20, .laload, 1), (21, .aload_n 0, 1), (22, .getfield 7, 3)] := dw_all (l := [28, 47, 9, 148, 154, 0, 10, 42, 29, 9, 182, 0, 59, 172, 42, 42, 180, 0, 7, 27, 47, 42, 180, 0, 7]) (by decide +kernel)
theorem dX5_lcm_51 : decode cX5_lcm 51 = .ok (.iload_n 2, 1) := wtX5_lcm_51.1
theorem dX5_lcm_52 : decode cX5_lcm 52 = .ok (.laload, 1) := wtX5_lcm_51.2.1
theorem dX5_lcm_53 : decode cX5_lcm 53 = .ok (.lconst 0, 1) := wtX5_lcm_51.2.2.1
theorem dX5_lcm_54 : decode cX5_lcm 54 = .ok (.lcmp, 1) := wtX5_lcm_51.2.2.2.1
theorem dX5_lcm_55 : decode cX5_lcm 55 = .ok (.ifCond .ne 10, 3) := wtX5_lcm_51.2.2.2.2.1
theorem dX5_lcm_58 : decode cX5_lcm 58 = .ok (.aload_n 0, 1) := wtX5_lcm_51.2.2.2.2.2.1
theorem dX5_lcm_59 : decode cX5_lcm 59 = .ok (.iload_n 3, 1) := wtX5_lcm_51.2.2.2.2.2.2.1
theorem dX5_lcm_60 : decode cX5_lcm 60 = .ok (.lconst 0, 1) := wtX5_lcm_51.2.2.2.2.2.2.2.1
theorem dX5_lcm_61 : decode cX5_lcm 61 = .ok (.invokevirtual 59, 3) := wtX5_lcm_51.2.2.2.2.2.2.2.2.1
theorem dX5_lcm_64 : decode cX5_lcm 64 = .ok (.ireturn, 1) := wtX5_lcm_51.2.2.2.2.2.2.2.2.2.1
theorem dX5_lcm_65 : decode cX5_lcm 65 = .ok (.aload_n 0, 1) := wtX5_lcm_51.2.2.2.2.2.2.2.2.2.2.1
theorem dX5_lcm_66 : decode cX5_lcm 66 = .ok (.aload_n 0, 1) := wtX5_lcm_51.2.2.2.2.2.2.2.2.2.2.2.1
theorem dX5_lcm_67 : decode cX5_lcm 67 = .ok (.getfield 7, 3) := wtX5_lcm_51.2.2.2.2.2.2.2.2.2.2.2.2.1
theorem dX5_lcm_70 : decode cX5_lcm 70 = .ok (.iload_n 1, 1) := wtX5_lcm_51.2.2.2.2.2.2.2.2.2.2.2.2.2.1
theorem dX5_lcm_71 : decode cX5_lcm 71 = .ok (.laload, 1) := wtX5_lcm_51.2.2.2.2.2.2.2.2.2.2.2.2.2.2.1
theorem dX5_lcm_72 : decode cX5_lcm 72 = .ok (.aload_n 0, 1) := wtX5_lcm_51.2.2.2.2.2.2.2.2.2.2.2.2.2.2.2.1
theorem dX5_lcm_73 : decode cX5_lcm 73 = .ok (.getfield 7, 3) := wtX5_lcm_51.2.2.2.2.2.2.2.2.2.2.2.2.2.2.2.2.1
theorem wtX5_lcm_76 : dwcj cX5_lcm 76 [(0, .iload_n 1, 1), (1, .laload, 1), (2, .aload_n 0, 1), (3, .getfield 7, 3), (6, .iload_n 2, 1), (7, .laload, 1), (8, .iconst 0, 1), (9, .invokestatic 94, 3), (12, .invokestatic 37, 3), (15, .aload_n 0, 1), (16, .getfield 7, 3), (19, .iload_n 2, 1), (20, .laload, 1), (21, .iload_n 3, 1), (22, .invokevirtual 90, 3)] := dw_all (l := [27, 47, 42, 180, 0, 7, 28, 47, 3, 184, 0, 94, 184, 0, 37, 42, 180, 0, 7, 28, 47, 29, 182, 0, 90]) (by decide +kernel)
theorem dX5_lcm_76 : decode cX5_lcm 76 = .ok (.iload_n 1, 1) := wtX5_lcm_76.1
theorem dX5_lcm_77 : decode cX5_lcm 77 = .ok (.laload, 1) := wtX5_lcm_76.2.1
theorem dX5_lcm_78 : decode cX5_lcm 78 = .ok (.aload_n 0, 1) := wtX5_lcm_76.2.2.1
theorem dX5_lcm_79 : decode cX5_lcm 79 = .ok (.getfield 7, 3) := wtX5_lcm_76.2.2.2.1
theorem dX5_lcm_82 : decode cX5_lcm 82 = .ok (.iload_n 2, 1) := wtX5_lcm_76.2.2.2.2.1
theorem dX5_lcm_83 : decode cX5_lcm 83 = .ok (.laload, 1) := wtX5_lcm_76.2.2.2.2.2.1
theorem dX5_lcm_84 : decode cX5_lcm 84 = .ok (.iconst 0, 1) := wtX5_lcm_76.2.2.2.2.2.2.1
theorem dX5_lcm_85 : decode cX5_lcm 85 = .ok (.invokestatic 94, 3) := wtX5_lcm_76.2.2.2.2.2.2.2.1
theorem dX5_lcm_88 : decode cX5_lcm 88 = .ok (.invokestatic 37, 3) := wtX5_lcm_76.2.2.2.2.2.2.2.2.1
theorem dX5_lcm_91 : decode cX5_lcm 91 = .ok (.aload_n 0, 1) := wtX5_lcm_76.2.2.2.2.2.2.2.2.2.1
theorem dX5_lcm_92 : decode cX5_lcm 92 = .ok (.getfield 7, 3) := wtX5_lcm_76.2.2.2.2.2.2.2.2.2.2.1
theorem dX5_lcm_95 : decode cX5_lcm 95 = .ok (.iload_n 2, 1) := wtX5_lcm_76.2.2.2.2.2.2.2.2.2.2.2.1
theorem dX5_lcm_96 : decode cX5_lcm 96 = .ok (.laload, 1) := wtX5_lcm_76.2.2.2.2.2.2.2.2.2.2.2.2.1
theorem dX5_lcm_97 : decode cX5_lcm 97 = .ok (.iload_n 3, 1) := wtX5_lcm_76.2.2.2.2.2.2.2.2.2.2.2.2.2.1
theorem dX5_lcm_98 : decode cX5_lcm 98 = .ok (.invokevirtual 90, 3) := wtX5_lcm_76.2.2.2.2.2.2.2.2.2.2.2.2.2.2.1
theorem wtX5_lcm_101 : dwcj cX5_lcm 101 [(0, .ireturn, 1)] := dw_all (l := [172]) (by decide +kernel)
theorem dX5_lcm_101 : decode cX5_lcm 101 = .ok (.ireturn, 1) := wtX5_lcm_101.1
theorem wtX5_bezout_0 : dwcj cX5_bezout 0 [(0, .aload_n 0, 1), (1, .iload_n 1, 1), (2, .invokestatic 67, 3), (5, .ifCond .ne 18, 3), (8, .iload_n 2, 1), (9, .invokestatic 67, 3), (12, .ifCond .ne 11, 3), (15, .iload 4, 2), (17, .invokestatic 67, 3), (20, .ifCond .eq 7, 3), (23, .iconst 1, 1)] := dw_all (l := [42, 27, 184, 0, 67, 154, 0, 18, 28, 184, 0, 67, 154, 0, 11, 21, 4, 184, 0, 67, 153, 0, 7, 4]) (by decide +kernel)
theorem dX5_bezout_0 : decode cX5_bezout 0 = .ok (.aload_n 0, 1) := wtX5_bezout_0.1
theorem dX5_bezout_1 : decode cX5_bezout 1 = .ok (.iload_n 1, 1) := wtX5_bezout_0.2.1
theorem dX5_bezout_2 : decode cX5_bezout 2 = .ok (.invokestatic 67, 3) := wtX5_bezout_0.2.2.1
theorem dX5_bezout_5 : decode cX5_bezout 5 = .ok (.ifCond .ne 18, 3) := wtX5_bezout_0.2.2.2.1
theorem dX5_bezout_8 : decode cX5_bezout 8 = .ok (.iload_n 2, 1) := wtX5_bezout_0.2.2.2.2.1
theorem dX5_bezout_9 : decode cX5_bezout 9 = .ok (.invokestatic 67, 3) := wtX5_bezout_0.2.2.2.2.2.1
theorem dX5_bezout_12 : decode cX5_bezout 12 = .ok (.ifCond .ne 11, 3) := wtX5_bezout_0.2.2.2.2.2.2.1
theorem dX5_bezout_15 : decode cX5_bezout 15 = .ok (.iload 4, 2) := wtX5_bezout_0.2.2.2.2.2.2.2.1
theorem dX5_bezout_17 : decode cX5_bezout 17 = .ok (.invokestatic 67, 3) := wtX5_bezout_0.2.2.2.2.2.2.2.2.1
theorem dX5_bezout_20 : decode cX5_bezout 20 = .ok (.ifCond .eq 7, 3) := wtX5_bezout_0.2.2.2.2.2.2.2.2.2.1
theorem dX5_bezout_23 : decode cX5_bezout 23 = .ok (.iconst 1, 1) := wtX5_bezout_0.2.2.2.2.2.2.2.2.2.2.1
theorem wtX5_bezout_24 : dwcj cX5_bezout 24 [(0, .goto 4, 3), (3, .iconst 0, 1), (4, .iconst 1, 1), (5, .invokevirtual 71, 3), (8, .ifCond .eq 7, 3), (11, .iconst 0, 1), (12, .goto 33, 3), (15, .aload_n 0, 1), (16, .iload 4, 2), (18, .aload_n 0, 1), (19, .getfield 7, 3), (22, .iload_n 1, 1), (23, .laload, 1)] := dw_all (l := [167, 0, 4, 3, 4, 182, 0, 71, 153, 0, 7, 3, 167, 0, 33, 42, 21, 4, 42, 180, 0, 7, 27, 47]) (by decide +kernel)
theorem dX5_bezout_24 : decode cX5_bezout 24 = .ok (.goto 4, 3) := wtX5_bezout_24.1
theorem dX5_bezout_27 : decode cX5_bezout 27 = .ok (.iconst 0, 1) := wtX5_bezout_24.2.1
theorem dX5_bezout_28 : decode cX5_bezout 28 = .ok (.iconst 1, 1) := wtX5_bezout_24.2.2.1
theorem dX5_bezout_29 : decode cX5_bezout 29 = .ok (.invokevirtual 71, 3) := wtX5_bezout_24.2.2.2.1
theorem dX5_bezout_32 : decode cX5_bezout 32 = .ok (.ifCond .eq 7, 3) := wtX5_bezout_24.2.2.2.2.1
theorem dX5_bezout_35 : decode cX5_bezout 35 = .ok (.iconst 0, 1) := wtX5_bezout_24.2.2.2.2.2.1
theorem dX5_bezout_36 : decode cX5_bezout 36 = .ok (.goto 33, 3) := wtX5_bezout_24.2.2.2.2.2.2.1
theorem dX5_bezout_39 : decode cX5_bezout 39 = .ok (.aload_n 0, 1) := wtX5_bezout_24.2.2.2.2.2.2.2.1
theorem dX5_bezout_40 : decode cX5_bezout 40 = .ok (.iload 4, 2) := wtX5_bezout_24.2.2.2.2.2.2.2.2.1
theorem dX5_bezout_42 : decode cX5_bezout 42 = .ok (.aload_n 0, 1) := wtX5_bezout_24.2.2.2.2.2.2.2.2.2.1
theorem dX5_bezout_43 : decode cX5_bezout 43 = .ok (.getfield 7, 3) := wtX5_bezout_24.2.2.2.2.2.2.2.2.2.2.1
theorem dX5_bezout_46 : decode cX5_bezout 46 = .ok (.iload_n 1, 1) := wtX5_bezout_24.2.2.2.2.2.2.2.2.2.2.2.1
theorem dX5_bezout_47 : decode cX5_bezout 47 = .ok (.laload, 1) := wtX5_bezout_24.2.2.2.2.2.2.2.2.2.2.2.2.1
theorem wtX5_bezout_48 : dwcj cX5_bezout 48 [(0, .aload_n 0, 1), (1, .getfield 7, 3), (4, .iload_n 2, 1), (5, .laload, 1), (6, .iload_n 3, 1), (7, .ifCond .eq 7, 3), (10, .iconst 1, 1), (11, .goto 4, 3), (14, .iconst 2, 1), (15, .invokestatic 94, 3), (18, .invokevirtual 59, 3), (21, .ireturn, 1)] := dw_all (l := [42, 180, 0, 7, 28, 47, 29, 153, 0, 7, 4, 167, 0, 4, 5, 184, 0, 94, 182, 0, 59, 172]) (by decide +kernel)
theorem dX5_bezout_48 : decode cX5_bezout 48 = .ok (.aload_n 0, 1) := wtX5_bezout_48.1
theorem dX5_bezout_49 : decode cX5_bezout 49 = .ok (.getfield 7, 3) := wtX5_bezout_48.2.1
theorem dX5_bezout_52 : decode cX5_bezout 52 = .ok (.iload_n 2, 1) := wtX5_bezout_48.2.2.1
theorem dX5_bezout_53 : decode cX5_bezout 53 = .ok (.laload, 1) := wtX5_bezout_48.2.2.2.1
theorem dX5_bezout_54 : decode cX5_bezout 54 = .ok (.iload_n 3, 1) := wtX5_bezout_48.2.2.2.2.1
theorem dX5_bezout_55 : decode cX5_bezout 55 = .ok (.ifCond .eq 7, 3) := wtX5_bezout_48.2.2.2.2.2.1
theorem dX5_bezout_58 : decode cX5_bezout 58 = .ok (.iconst 1, 1) := wtX5_bezout_48.2.2.2.2.2.2.1
theorem dX5_bezout_59 : decode cX5_bezout 59 = .ok (.goto 4, 3) := wtX5_bezout_48.2.2.2.2.2.2.2.1
theorem dX5_bezout_62 : decode cX5_bezout 62 = .ok (.iconst 2, 1) := wtX5_bezout_48.2.2.2.2.2.2.2.2.1
theorem dX5_bezout_63 : decode cX5_bezout 63 = .ok (.invokestatic 94, 3) := wtX5_bezout_48.2.2.2.2.2.2.2.2.2.1
theorem dX5_bezout_66 : decode cX5_bezout 66 = .ok (.invokevirtual 59, 3) := wtX5_bezout_48.2.2.2.2.2.2.2.2.2.2.1
theorem dX5_bezout_69 : decode cX5_bezout 69 = .ok (.ireturn, 1) := wtX5_bezout_48.2.2.2.2.2.2.2.2.2.2.2.1
theorem wtX5_derive_0 : dwcj cX5_derive 0 [(0, .aload_n 0, 1), (1, .iload_n 1, 1), (2, .invokestatic 67, 3), (5, .ifCond .ne 10, 3), (8, .iload_n 2, 1), (9, .invokestatic 67, 3), (12, .ifCond .eq 7, 3), (15, .iconst 1, 1), (16, .goto 4, 3), (19, .iconst 0, 1), (20, .iconst 1, 1), (21, .invokevirtual 71, 3)] := dw_all (l := [42, 27, 184, 0, 67, 154, 0, 10, 28, 184, 0, 67, 153, 0, 7, 4, 167, 0, 4, 3, 4, 182, 0, 71]) (by decide +kernel)
theorem dX5_derive_0 : decode cX5_derive 0 = .ok (.aload_n 0, 1) := wtX5_derive_0.1
theorem dX5_derive_1 : decode cX5_derive 1 = .ok (.iload_n 1, 1) := wtX5_derive_0.2.1
theorem dX5_derive_2 : decode cX5_derive 2 = .ok (.invokestatic 67, 3) := wtX5_derive_0.2.2.1
theorem dX5_derive_5 : decode cX5_derive 5 = .ok (.ifCond .ne 10, 3) := wtX5_derive_0.2.2.2.1
theorem dX5_derive_8 : decode cX5_derive 8 = .ok (.iload_n 2, 1) := wtX5_derive_0.2.2.2.2.1
theorem dX5_derive_9 : decode cX5_derive 9 = .ok (.invokestatic 67, 3) := wtX5_derive_0.2.2.2.2.2.1
theorem dX5_derive_12 : decode cX5_derive 12 = .ok (.ifCond .eq 7, 3) := wtX5_derive_0.2.2.2.2.2.2.1
theorem dX5_derive_15 : decode cX5_derive 15 = .ok (.iconst 1, 1) := wtX5_derive_0.2.2.2.2.2.2.2.1
theorem dX5_derive_16 : decode cX5_derive 16 = .ok (.goto 4, 3) := wtX5_derive_0.2.2.2.2.2.2.2.2.1
theorem dX5_derive_19 : decode cX5_derive 19 = .ok (.iconst 0, 1) := wtX5_derive_0.2.2.2.2.2.2.2.2.2.1
theorem dX5_derive_20 : decode cX5_derive 20 = .ok (.iconst 1, 1) := wtX5_derive_0.2.2.2.2.2.2.2.2.2.2.1
theorem dX5_derive_21 : decode cX5_derive 21 = .ok (.invokevirtual 71, 3) := wtX5_derive_0.2.2.2.2.2.2.2.2.2.2.2.1
theorem wtX5_derive_24 : dwcj cX5_derive 24 [(0, .ifCond .eq 7, 3), (3, .iconst 0, 1), (4, .goto 17, 3), (7, .aload_n 0, 1), (8, .iload_n 2, 1), (9, .aload_n 0, 1), (10, .getfield 7, 3), (13, .iload_n 1, 1), (14, .laload, 1), (15, .invokestatic 98, 3), (18, .invokevirtual 59, 3), (21, .ireturn, 1)] := dw_all (l := [153, 0, 7, 3, 167, 0, 17, 42, 28, 42, 180, 0, 7, 27, 47, 184, 0, 98, 182, 0, 59, 172]) (by decide +kernel)
theorem dX5_derive_24 : decode cX5_derive 24 = .ok (.ifCond .eq 7, 3) := wtX5_derive_24.1
theorem dX5_derive_27 : decode cX5_derive 27 = .ok (.iconst 0, 1) := wtX5_derive_24.2.1
theorem dX5_derive_28 : decode cX5_derive 28 = .ok (.goto 17, 3) := wtX5_derive_24.2.2.1
theorem dX5_derive_31 : decode cX5_derive 31 = .ok (.aload_n 0, 1) := wtX5_derive_24.2.2.2.1
theorem dX5_derive_32 : decode cX5_derive 32 = .ok (.iload_n 2, 1) := wtX5_derive_24.2.2.2.2.1
theorem dX5_derive_33 : decode cX5_derive 33 = .ok (.aload_n 0, 1) := wtX5_derive_24.2.2.2.2.2.1
theorem dX5_derive_34 : decode cX5_derive 34 = .ok (.getfield 7, 3) := wtX5_derive_24.2.2.2.2.2.2.1
theorem dX5_derive_37 : decode cX5_derive 37 = .ok (.iload_n 1, 1) := wtX5_derive_24.2.2.2.2.2.2.2.1
theorem dX5_derive_38 : decode cX5_derive 38 = .ok (.laload, 1) := wtX5_derive_24.2.2.2.2.2.2.2.2.1
theorem dX5_derive_39 : decode cX5_derive 39 = .ok (.invokestatic 98, 3) := wtX5_derive_24.2.2.2.2.2.2.2.2.2.1
theorem dX5_derive_42 : decode cX5_derive 42 = .ok (.invokevirtual 59, 3) := wtX5_derive_24.2.2.2.2.2.2.2.2.2.2.1
theorem dX5_derive_45 : decode cX5_derive 45 = .ok (.ireturn, 1) := wtX5_derive_24.2.2.2.2.2.2.2.2.2.2.2.1
theorem wtX5_root_0 : dwcj cX5_root 0 [(0, .aload_n 0, 1), (1, .iload_n 1, 1), (2, .invokestatic 67, 3), (5, .ifCond .ne 10, 3), (8, .iload_n 2, 1), (9, .invokestatic 67, 3), (12, .ifCond .eq 7, 3), (15, .iconst 1, 1), (16, .goto 4, 3), (19, .iconst 0, 1), (20, .iconst 1, 1), (21, .invokevirtual 71, 3)] := dw_all (l := [42, 27, 184, 0, 67, 154, 0, 10, 28, 184, 0, 67, 153, 0, 7, 4, 167, 0, 4, 3, 4, 182, 0, 71]) (by decide +kernel)
theorem dX5_root_0 : decode cX5_root 0 = .ok (.aload_n 0, 1) := wtX5_root_0.1
theorem dX5_root_1 : decode cX5_root 1 = .ok (.iload_n 1, 1) := wtX5_root_0.2.1
theorem dX5_root_2 : decode cX5_root 2 = .ok (.invokestatic 67, 3) := wtX5_root_0.2.2.1
theorem dX5_root_5 : decode cX5_root 5 = .ok (.ifCond .ne 10, 3) := wtX5_root_0.2.2.2.1
theorem dX5_root_8 : decode cX5_root 8 = .ok (.iload_n 2, 1) := wtX5_root_0.2.2.2.2.1
theorem dX5_root_9 : decode cX5_root 9 = .ok (.invokestatic 67, 3) := wtX5_root_0.2.2.2.2.2.1
theorem dX5_root_12 : decode cX5_root 12 = .ok (.ifCond .eq 7, 3) := wtX5_root_0.2.2.2.2.2.2.1
theorem dX5_root_15 : decode cX5_root 15 = .ok (.iconst 1, 1) := wtX5_root_0.2.2.2.2.2.2.2.1
theorem dX5_root_16 : decode cX5_root 16 = .ok (.goto 4, 3) := wtX5_root_0.2.2.2.2.2.2.2.2.1
theorem dX5_root_19 : decode cX5_root 19 = .ok (.iconst 0, 1) := wtX5_root_0.2.2.2.2.2.2.2.2.2.1
theorem dX5_root_20 : decode cX5_root 20 = .ok (.iconst 1, 1) := wtX5_root_0.2.2.2.2.2.2.2.2.2.2.1
theorem dX5_root_21 : decode cX5_root 21 = .ok (.invokevirtual 71, 3) := wtX5_root_0.2.2.2.2.2.2.2.2.2.2.2.1
theorem wtX5_root_24 : dwcj cX5_root 24 [(0, .ifCond .eq 7, 3), (3, .iconst 0, 1), (4, .goto 36, 3), (7, .aload_n 0, 1), (8, .aload_n 0, 1), (9, .getfield 7, 3), (12, .iload_n 1, 1), (13, .laload, 1), (14, .invokestatic 98, 3), (17, .lconst 0, 1), (18, .lcmp, 1), (19, .ifCond .ne 7, 3), (22, .iconst 1, 1), (23, .goto 4, 3)] := dw_all (l := [153, 0, 7, 3, 167, 0, 36, 42, 42, 180, 0, 7, 27, 47, 184, 0, 98, 9, 148, 154, 0, 7, 4, 167, 0, 4]) (by decide +kernel)
theorem dX5_root_24 : decode cX5_root 24 = .ok (.ifCond .eq 7, 3) := wtX5_root_24.1
theorem dX5_root_27 : decode cX5_root 27 = .ok (.iconst 0, 1) := wtX5_root_24.2.1
theorem dX5_root_28 : decode cX5_root 28 = .ok (.goto 36, 3) := wtX5_root_24.2.2.1
theorem dX5_root_31 : decode cX5_root 31 = .ok (.aload_n 0, 1) := wtX5_root_24.2.2.2.1
theorem dX5_root_32 : decode cX5_root 32 = .ok (.aload_n 0, 1) := wtX5_root_24.2.2.2.2.1
theorem dX5_root_33 : decode cX5_root 33 = .ok (.getfield 7, 3) := wtX5_root_24.2.2.2.2.2.1
theorem dX5_root_36 : decode cX5_root 36 = .ok (.iload_n 1, 1) := wtX5_root_24.2.2.2.2.2.2.1
theorem dX5_root_37 : decode cX5_root 37 = .ok (.laload, 1) := wtX5_root_24.2.2.2.2.2.2.2.1
theorem dX5_root_38 : decode cX5_root 38 = .ok (.invokestatic 98, 3) := wtX5_root_24.2.2.2.2.2.2.2.2.1
theorem dX5_root_41 : decode cX5_root 41 = .ok (.lconst 0, 1) := wtX5_root_24.2.2.2.2.2.2.2.2.2.1
theorem dX5_root_42 : decode cX5_root 42 = .ok (.lcmp, 1) := wtX5_root_24.2.2.2.2.2.2.2.2.2.2.1
theorem dX5_root_43 : decode cX5_root 43 = .ok (.ifCond .ne 7, 3) := wtX5_root_24.2.2.2.2.2.2.2.2.2.2.2.1
theorem dX5_root_46 : decode cX5_root 46 = .ok (.iconst 1, 1) := wtX5_root_24.2.2.2.2.2.2.2.2.2.2.2.2.1
theorem dX5_root_47 : decode cX5_root 47 = .ok (.goto 4, 3) := wtX5_root_24.2.2.2.2.2.2.2.2.2.2.2.2.2.1
theorem wtX5_root_50 : dwcj cX5_root 50 [(0, .iconst 0, 1), (1, .iload_n 2, 1), (2, .aload_n 0, 1), (3, .getfield 7, 3), (6, .iload_n 1, 1), (7, .laload, 1), (8, .invokestatic 102, 3), (11, .invokevirtual 86, 3), (14, .ireturn, 1)] := dw_all (l := [3, 28, 42, 180, 0, 7, 27, 47, 184, 0, 102, 182, 0, 86, 172]) (by decide +kernel)
theorem dX5_root_50 : decode cX5_root 50 = .ok (.iconst 0, 1) := wtX5_root_50.1
theorem dX5_root_51 : decode cX5_root 51 = .ok (.iload_n 2, 1) := wtX5_root_50.2.1
theorem dX5_root_52 : decode cX5_root 52 = .ok (.aload_n 0, 1) := wtX5_root_50.2.2.1
theorem dX5_root_53 : decode cX5_root 53 = .ok (.getfield 7, 3) := wtX5_root_50.2.2.2.1
theorem dX5_root_56 : decode cX5_root 56 = .ok (.iload_n 1, 1) := wtX5_root_50.2.2.2.2.1
theorem dX5_root_57 : decode cX5_root 57 = .ok (.laload, 1) := wtX5_root_50.2.2.2.2.2.1
theorem dX5_root_58 : decode cX5_root 58 = .ok (.invokestatic 102, 3) := wtX5_root_50.2.2.2.2.2.2.1
theorem dX5_root_61 : decode cX5_root 61 = .ok (.invokevirtual 86, 3) := wtX5_root_50.2.2.2.2.2.2.2.1
theorem dX5_root_64 : decode cX5_root 64 = .ok (.ireturn, 1) := wtX5_root_50.2.2.2.2.2.2.2.2.1
theorem wtX5_turn_0 : dwcj cX5_turn 0 [(0, .aload_n 0, 1), (1, .iload_n 1, 1), (2, .invokestatic 67, 3), (5, .ifCond .ne 10, 3), (8, .iload_n 2, 1), (9, .invokestatic 67, 3), (12, .ifCond .eq 7, 3), (15, .iconst 1, 1), (16, .goto 4, 3), (19, .iconst 0, 1), (20, .iconst 1, 1), (21, .invokevirtual 71, 3)] := dw_all (l := [42, 27, 184, 0, 67, 154, 0, 10, 28, 184, 0, 67, 153, 0, 7, 4, 167, 0, 4, 3, 4, 182, 0, 71]) (by decide +kernel)
theorem dX5_turn_0 : decode cX5_turn 0 = .ok (.aload_n 0, 1) := wtX5_turn_0.1
theorem dX5_turn_1 : decode cX5_turn 1 = .ok (.iload_n 1, 1) := wtX5_turn_0.2.1
theorem dX5_turn_2 : decode cX5_turn 2 = .ok (.invokestatic 67, 3) := wtX5_turn_0.2.2.1
theorem dX5_turn_5 : decode cX5_turn 5 = .ok (.ifCond .ne 10, 3) := wtX5_turn_0.2.2.2.1
theorem dX5_turn_8 : decode cX5_turn 8 = .ok (.iload_n 2, 1) := wtX5_turn_0.2.2.2.2.1
theorem dX5_turn_9 : decode cX5_turn 9 = .ok (.invokestatic 67, 3) := wtX5_turn_0.2.2.2.2.2.1
theorem dX5_turn_12 : decode cX5_turn 12 = .ok (.ifCond .eq 7, 3) := wtX5_turn_0.2.2.2.2.2.2.1
theorem dX5_turn_15 : decode cX5_turn 15 = .ok (.iconst 1, 1) := wtX5_turn_0.2.2.2.2.2.2.2.1
theorem dX5_turn_16 : decode cX5_turn 16 = .ok (.goto 4, 3) := wtX5_turn_0.2.2.2.2.2.2.2.2.1
theorem dX5_turn_19 : decode cX5_turn 19 = .ok (.iconst 0, 1) := wtX5_turn_0.2.2.2.2.2.2.2.2.2.1
theorem dX5_turn_20 : decode cX5_turn 20 = .ok (.iconst 1, 1) := wtX5_turn_0.2.2.2.2.2.2.2.2.2.2.1
theorem dX5_turn_21 : decode cX5_turn 21 = .ok (.invokevirtual 71, 3) := wtX5_turn_0.2.2.2.2.2.2.2.2.2.2.2.1
theorem wtX5_turn_24 : dwcj cX5_turn 24 [(0, .ifCond .eq 5, 3), (3, .iconst 0, 1), (4, .ireturn, 1), (5, .lconst 0, 1), (6, .lstore_n 3, 1), (7, .aload_n 0, 1), (8, .getfield 7, 3), (11, .iload_n 1, 1), (12, .laload, 1), (13, .lstore 5, 2), (15, .lload 5, 2), (17, .lconst 0, 1), (18, .lcmp, 1), (19, .ifCond .eq 21, 3), (22, .lload_n 3, 1), (23, .iconst 1, 1)] := dw_all (l := [153, 0, 5, 3, 172, 9, 66, 42, 180, 0, 7, 27, 47, 55, 5, 22, 5, 9, 148, 153, 0, 21, 33, 4]) (by decide +kernel)
theorem dX5_turn_24 : decode cX5_turn 24 = .ok (.ifCond .eq 5, 3) := wtX5_turn_24.1
theorem dX5_turn_27 : decode cX5_turn 27 = .ok (.iconst 0, 1) := wtX5_turn_24.2.1
theorem dX5_turn_28 : decode cX5_turn 28 = .ok (.ireturn, 1) := wtX5_turn_24.2.2.1
theorem dX5_turn_29 : decode cX5_turn 29 = .ok (.lconst 0, 1) := wtX5_turn_24.2.2.2.1
theorem dX5_turn_30 : decode cX5_turn 30 = .ok (.lstore_n 3, 1) := wtX5_turn_24.2.2.2.2.1
theorem dX5_turn_31 : decode cX5_turn 31 = .ok (.aload_n 0, 1) := wtX5_turn_24.2.2.2.2.2.1
theorem dX5_turn_32 : decode cX5_turn 32 = .ok (.getfield 7, 3) := wtX5_turn_24.2.2.2.2.2.2.1
theorem dX5_turn_35 : decode cX5_turn 35 = .ok (.iload_n 1, 1) := wtX5_turn_24.2.2.2.2.2.2.2.1
theorem dX5_turn_36 : decode cX5_turn 36 = .ok (.laload, 1) := wtX5_turn_24.2.2.2.2.2.2.2.2.1
theorem dX5_turn_37 : decode cX5_turn 37 = .ok (.lstore 5, 2) := wtX5_turn_24.2.2.2.2.2.2.2.2.2.1
theorem dX5_turn_39 : decode cX5_turn 39 = .ok (.lload 5, 2) := wtX5_turn_24.2.2.2.2.2.2.2.2.2.2.1
theorem dX5_turn_41 : decode cX5_turn 41 = .ok (.lconst 0, 1) := wtX5_turn_24.2.2.2.2.2.2.2.2.2.2.2.1
theorem dX5_turn_42 : decode cX5_turn 42 = .ok (.lcmp, 1) := wtX5_turn_24.2.2.2.2.2.2.2.2.2.2.2.2.1
theorem dX5_turn_43 : decode cX5_turn 43 = .ok (.ifCond .eq 21, 3) := wtX5_turn_24.2.2.2.2.2.2.2.2.2.2.2.2.2.1
theorem dX5_turn_46 : decode cX5_turn 46 = .ok (.lload_n 3, 1) := wtX5_turn_24.2.2.2.2.2.2.2.2.2.2.2.2.2.2.1
theorem dX5_turn_47 : decode cX5_turn 47 = .ok (.iconst 1, 1) := wtX5_turn_24.2.2.2.2.2.2.2.2.2.2.2.2.2.2.2.1
theorem wtX5_turn_48 : dwcj cX5_turn 48 [(0, .lshl, 1), (1, .lload 5, 2), (3, .lconst 1, 1), (4, .land, 1), (5, .lor, 1), (6, .lstore_n 3, 1), (7, .lload 5, 2), (9, .iconst 1, 1), (10, .lushr, 1), (11, .lstore 5, 2), (13, .goto (-22), 3), (16, .aload_n 0, 1), (17, .iload_n 2, 1), (18, .lload_n 3, 1), (19, .invokevirtual 59, 3), (22, .ireturn, 1)] := dw_all (l := [121, 22, 5, 10, 127, 129, 66, 22, 5, 4, 125, 55, 5, 167, 255, 234, 42, 28, 33, 182, 0, 59, 172]) (by decide +kernel)
theorem dX5_turn_48 : decode cX5_turn 48 = .ok (.lshl, 1) := wtX5_turn_48.1
theorem dX5_turn_49 : decode cX5_turn 49 = .ok (.lload 5, 2) := wtX5_turn_48.2.1
theorem dX5_turn_51 : decode cX5_turn 51 = .ok (.lconst 1, 1) := wtX5_turn_48.2.2.1
theorem dX5_turn_52 : decode cX5_turn 52 = .ok (.land, 1) := wtX5_turn_48.2.2.2.1
theorem dX5_turn_53 : decode cX5_turn 53 = .ok (.lor, 1) := wtX5_turn_48.2.2.2.2.1
theorem dX5_turn_54 : decode cX5_turn 54 = .ok (.lstore_n 3, 1) := wtX5_turn_48.2.2.2.2.2.1
theorem dX5_turn_55 : decode cX5_turn 55 = .ok (.lload 5, 2) := wtX5_turn_48.2.2.2.2.2.2.1
theorem dX5_turn_57 : decode cX5_turn 57 = .ok (.iconst 1, 1) := wtX5_turn_48.2.2.2.2.2.2.2.1
theorem dX5_turn_58 : decode cX5_turn 58 = .ok (.lushr, 1) := wtX5_turn_48.2.2.2.2.2.2.2.2.1
theorem dX5_turn_59 : decode cX5_turn 59 = .ok (.lstore 5, 2) := wtX5_turn_48.2.2.2.2.2.2.2.2.2.1
theorem dX5_turn_61 : decode cX5_turn 61 = .ok (.goto (-22), 3) := wtX5_turn_48.2.2.2.2.2.2.2.2.2.2.1
theorem dX5_turn_64 : decode cX5_turn 64 = .ok (.aload_n 0, 1) := wtX5_turn_48.2.2.2.2.2.2.2.2.2.2.2.1
theorem dX5_turn_65 : decode cX5_turn 65 = .ok (.iload_n 2, 1) := wtX5_turn_48.2.2.2.2.2.2.2.2.2.2.2.2.1
theorem dX5_turn_66 : decode cX5_turn 66 = .ok (.lload_n 3, 1) := wtX5_turn_48.2.2.2.2.2.2.2.2.2.2.2.2.2.1
theorem dX5_turn_67 : decode cX5_turn 67 = .ok (.invokevirtual 59, 3) := wtX5_turn_48.2.2.2.2.2.2.2.2.2.2.2.2.2.2.1
theorem dX5_turn_70 : decode cX5_turn 70 = .ok (.ireturn, 1) := wtX5_turn_48.2.2.2.2.2.2.2.2.2.2.2.2.2.2.2.1
theorem wtX5_move_0 : dwcj cX5_move 0 [(0, .aload_n 0, 1), (1, .iload_n 1, 1), (2, .invokestatic 67, 3), (5, .ifCond .ne 10, 3), (8, .iload_n 2, 1), (9, .invokestatic 67, 3), (12, .ifCond .eq 7, 3), (15, .iconst 1, 1), (16, .goto 4, 3), (19, .iconst 0, 1), (20, .iconst 1, 1), (21, .invokevirtual 71, 3)] := dw_all (l := [42, 27, 184, 0, 67, 154, 0, 10, 28, 184, 0, 67, 153, 0, 7, 4, 167, 0, 4, 3, 4, 182, 0, 71]) (by decide +kernel)
theorem dX5_move_0 : decode cX5_move 0 = .ok (.aload_n 0, 1) := wtX5_move_0.1
theorem dX5_move_1 : decode cX5_move 1 = .ok (.iload_n 1, 1) := wtX5_move_0.2.1
theorem dX5_move_2 : decode cX5_move 2 = .ok (.invokestatic 67, 3) := wtX5_move_0.2.2.1
theorem dX5_move_5 : decode cX5_move 5 = .ok (.ifCond .ne 10, 3) := wtX5_move_0.2.2.2.1
theorem dX5_move_8 : decode cX5_move 8 = .ok (.iload_n 2, 1) := wtX5_move_0.2.2.2.2.1
theorem dX5_move_9 : decode cX5_move 9 = .ok (.invokestatic 67, 3) := wtX5_move_0.2.2.2.2.2.1
theorem dX5_move_12 : decode cX5_move 12 = .ok (.ifCond .eq 7, 3) := wtX5_move_0.2.2.2.2.2.2.1
theorem dX5_move_15 : decode cX5_move 15 = .ok (.iconst 1, 1) := wtX5_move_0.2.2.2.2.2.2.2.1
theorem dX5_move_16 : decode cX5_move 16 = .ok (.goto 4, 3) := wtX5_move_0.2.2.2.2.2.2.2.2.1
theorem dX5_move_19 : decode cX5_move 19 = .ok (.iconst 0, 1) := wtX5_move_0.2.2.2.2.2.2.2.2.2.1
theorem dX5_move_20 : decode cX5_move 20 = .ok (.iconst 1, 1) := wtX5_move_0.2.2.2.2.2.2.2.2.2.2.1
theorem dX5_move_21 : decode cX5_move 21 = .ok (.invokevirtual 71, 3) := wtX5_move_0.2.2.2.2.2.2.2.2.2.2.2.1
theorem wtX5_move_24 : dwcj cX5_move 24 [(0, .ifCond .eq 5, 3), (3, .iconst 0, 1), (4, .ireturn, 1), (5, .lconst 0, 1), (6, .lstore_n 3, 1), (7, .bipush 32, 2), (9, .istore 5, 2), (11, .iload 5, 2), (13, .ifCond .lt 27, 3), (16, .lload_n 3, 1), (17, .lload_n 3, 1), (18, .iconst 1, 1), (19, .lshl, 1), (20, .lxor, 1), (21, .aload_n 0, 1), (22, .getfield 7, 3)] := dw_all (l := [153, 0, 5, 3, 172, 9, 66, 16, 32, 54, 5, 21, 5, 155, 0, 27, 33, 33, 4, 121, 131, 42, 180, 0, 7]) (by decide +kernel)
theorem dX5_move_24 : decode cX5_move 24 = .ok (.ifCond .eq 5, 3) := wtX5_move_24.1
theorem dX5_move_27 : decode cX5_move 27 = .ok (.iconst 0, 1) := wtX5_move_24.2.1
theorem dX5_move_28 : decode cX5_move 28 = .ok (.ireturn, 1) := wtX5_move_24.2.2.1
theorem dX5_move_29 : decode cX5_move 29 = .ok (.lconst 0, 1) := wtX5_move_24.2.2.2.1
theorem dX5_move_30 : decode cX5_move 30 = .ok (.lstore_n 3, 1) := wtX5_move_24.2.2.2.2.1
theorem dX5_move_31 : decode cX5_move 31 = .ok (.bipush 32, 2) := wtX5_move_24.2.2.2.2.2.1
theorem dX5_move_33 : decode cX5_move 33 = .ok (.istore 5, 2) := wtX5_move_24.2.2.2.2.2.2.1
theorem dX5_move_35 : decode cX5_move 35 = .ok (.iload 5, 2) := wtX5_move_24.2.2.2.2.2.2.2.1
theorem dX5_move_37 : decode cX5_move 37 = .ok (.ifCond .lt 27, 3) := wtX5_move_24.2.2.2.2.2.2.2.2.1
theorem dX5_move_40 : decode cX5_move 40 = .ok (.lload_n 3, 1) := wtX5_move_24.2.2.2.2.2.2.2.2.2.1
theorem dX5_move_41 : decode cX5_move 41 = .ok (.lload_n 3, 1) := wtX5_move_24.2.2.2.2.2.2.2.2.2.2.1
theorem dX5_move_42 : decode cX5_move 42 = .ok (.iconst 1, 1) := wtX5_move_24.2.2.2.2.2.2.2.2.2.2.2.1
theorem dX5_move_43 : decode cX5_move 43 = .ok (.lshl, 1) := wtX5_move_24.2.2.2.2.2.2.2.2.2.2.2.2.1
theorem dX5_move_44 : decode cX5_move 44 = .ok (.lxor, 1) := wtX5_move_24.2.2.2.2.2.2.2.2.2.2.2.2.2.1
theorem dX5_move_45 : decode cX5_move 45 = .ok (.aload_n 0, 1) := wtX5_move_24.2.2.2.2.2.2.2.2.2.2.2.2.2.2.1
theorem dX5_move_46 : decode cX5_move 46 = .ok (.getfield 7, 3) := wtX5_move_24.2.2.2.2.2.2.2.2.2.2.2.2.2.2.2.1
theorem wtX5_move_49 : dwcj cX5_move 49 [(0, .iload_n 1, 1), (1, .laload, 1), (2, .iload 5, 2), (4, .lushr, 1), (5, .lconst 1, 1), (6, .land, 1), (7, .lxor, 1), (8, .lstore_n 3, 1), (9, .iinc 5 (-1), 3), (12, .goto (-26), 3), (15, .aload_n 0, 1), (16, .iload_n 2, 1), (17, .lload_n 3, 1), (18, .invokevirtual 59, 3), (21, .ireturn, 1)] := dw_all (l := [27, 47, 21, 5, 125, 10, 127, 131, 66, 132, 5, 255, 167, 255, 230, 42, 28, 33, 182, 0, 59, 172]) (by decide +kernel)
theorem dX5_move_49 : decode cX5_move 49 = .ok (.iload_n 1, 1) := wtX5_move_49.1
theorem dX5_move_50 : decode cX5_move 50 = .ok (.laload, 1) := wtX5_move_49.2.1
theorem dX5_move_51 : decode cX5_move 51 = .ok (.iload 5, 2) := wtX5_move_49.2.2.1
theorem dX5_move_53 : decode cX5_move 53 = .ok (.lushr, 1) := wtX5_move_49.2.2.2.1
theorem dX5_move_54 : decode cX5_move 54 = .ok (.lconst 1, 1) := wtX5_move_49.2.2.2.2.1
theorem dX5_move_55 : decode cX5_move 55 = .ok (.land, 1) := wtX5_move_49.2.2.2.2.2.1
theorem dX5_move_56 : decode cX5_move 56 = .ok (.lxor, 1) := wtX5_move_49.2.2.2.2.2.2.1
theorem dX5_move_57 : decode cX5_move 57 = .ok (.lstore_n 3, 1) := wtX5_move_49.2.2.2.2.2.2.2.1
theorem dX5_move_58 : decode cX5_move 58 = .ok (.iinc 5 (-1), 3) := wtX5_move_49.2.2.2.2.2.2.2.2.1
theorem dX5_move_61 : decode cX5_move 61 = .ok (.goto (-26), 3) := wtX5_move_49.2.2.2.2.2.2.2.2.2.1
theorem dX5_move_64 : decode cX5_move 64 = .ok (.aload_n 0, 1) := wtX5_move_49.2.2.2.2.2.2.2.2.2.2.1
theorem dX5_move_65 : decode cX5_move 65 = .ok (.iload_n 2, 1) := wtX5_move_49.2.2.2.2.2.2.2.2.2.2.2.1
theorem dX5_move_66 : decode cX5_move 66 = .ok (.lload_n 3, 1) := wtX5_move_49.2.2.2.2.2.2.2.2.2.2.2.2.1
theorem dX5_move_67 : decode cX5_move 67 = .ok (.invokevirtual 59, 3) := wtX5_move_49.2.2.2.2.2.2.2.2.2.2.2.2.2.1
theorem dX5_move_70 : decode cX5_move 70 = .ok (.ireturn, 1) := wtX5_move_49.2.2.2.2.2.2.2.2.2.2.2.2.2.2.1
theorem wtX5_power_0 : dwcj cX5_power 0 [(0, .aload_n 0, 1), (1, .iload_n 1, 1), (2, .invokestatic 67, 3), (5, .ifCond .ne 18, 3), (8, .iload_n 3, 1), (9, .invokestatic 67, 3), (12, .ifCond .ne 11, 3), (15, .iload 4, 2), (17, .invokestatic 67, 3), (20, .ifCond .eq 7, 3), (23, .iconst 1, 1)] := dw_all (l := [42, 27, 184, 0, 67, 154, 0, 18, 29, 184, 0, 67, 154, 0, 11, 21, 4, 184, 0, 67, 153, 0, 7, 4]) (by decide +kernel)
theorem dX5_power_0 : decode cX5_power 0 = .ok (.aload_n 0, 1) := wtX5_power_0.1
theorem dX5_power_1 : decode cX5_power 1 = .ok (.iload_n 1, 1) := wtX5_power_0.2.1
theorem dX5_power_2 : decode cX5_power 2 = .ok (.invokestatic 67, 3) := wtX5_power_0.2.2.1
theorem dX5_power_5 : decode cX5_power 5 = .ok (.ifCond .ne 18, 3) := wtX5_power_0.2.2.2.1
theorem dX5_power_8 : decode cX5_power 8 = .ok (.iload_n 3, 1) := wtX5_power_0.2.2.2.2.1
theorem dX5_power_9 : decode cX5_power 9 = .ok (.invokestatic 67, 3) := wtX5_power_0.2.2.2.2.2.1
theorem dX5_power_12 : decode cX5_power 12 = .ok (.ifCond .ne 11, 3) := wtX5_power_0.2.2.2.2.2.2.1
theorem dX5_power_15 : decode cX5_power 15 = .ok (.iload 4, 2) := wtX5_power_0.2.2.2.2.2.2.2.1
theorem dX5_power_17 : decode cX5_power 17 = .ok (.invokestatic 67, 3) := wtX5_power_0.2.2.2.2.2.2.2.2.1
theorem dX5_power_20 : decode cX5_power 20 = .ok (.ifCond .eq 7, 3) := wtX5_power_0.2.2.2.2.2.2.2.2.2.1
theorem dX5_power_23 : decode cX5_power 23 = .ok (.iconst 1, 1) := wtX5_power_0.2.2.2.2.2.2.2.2.2.2.1
theorem wtX5_power_24 : dwcj cX5_power 24 [(0, .goto 4, 3), (3, .iconst 0, 1), (4, .iconst 1, 1), (5, .invokevirtual 71, 3), (8, .ifCond .ne 27, 3), (11, .aload_n 0, 1), (12, .iload_n 2, 1), (13, .iconst 0, 1), (14, .sipush 255, 3), (17, .invokestatic 21, 3), (20, .ifCond .ne 7, 3), (23, .iconst 1, 1)] := dw_all (l := [167, 0, 4, 3, 4, 182, 0, 71, 154, 0, 27, 42, 28, 3, 17, 0, 255, 184, 0, 21, 154, 0, 7, 4]) (by decide +kernel)
theorem dX5_power_24 : decode cX5_power 24 = .ok (.goto 4, 3) := wtX5_power_24.1
theorem dX5_power_27 : decode cX5_power 27 = .ok (.iconst 0, 1) := wtX5_power_24.2.1
theorem dX5_power_28 : decode cX5_power 28 = .ok (.iconst 1, 1) := wtX5_power_24.2.2.1
theorem dX5_power_29 : decode cX5_power 29 = .ok (.invokevirtual 71, 3) := wtX5_power_24.2.2.2.1
theorem dX5_power_32 : decode cX5_power 32 = .ok (.ifCond .ne 27, 3) := wtX5_power_24.2.2.2.2.1
theorem dX5_power_35 : decode cX5_power 35 = .ok (.aload_n 0, 1) := wtX5_power_24.2.2.2.2.2.1
theorem dX5_power_36 : decode cX5_power 36 = .ok (.iload_n 2, 1) := wtX5_power_24.2.2.2.2.2.2.1
theorem dX5_power_37 : decode cX5_power 37 = .ok (.iconst 0, 1) := wtX5_power_24.2.2.2.2.2.2.2.1
theorem dX5_power_38 : decode cX5_power 38 = .ok (.sipush 255, 3) := wtX5_power_24.2.2.2.2.2.2.2.2.1
theorem dX5_power_41 : decode cX5_power 41 = .ok (.invokestatic 21, 3) := wtX5_power_24.2.2.2.2.2.2.2.2.2.1
theorem dX5_power_44 : decode cX5_power 44 = .ok (.ifCond .ne 7, 3) := wtX5_power_24.2.2.2.2.2.2.2.2.2.2.1
theorem dX5_power_47 : decode cX5_power 47 = .ok (.iconst 1, 1) := wtX5_power_24.2.2.2.2.2.2.2.2.2.2.2.1
theorem wtX5_power_48 : dwcj cX5_power 48 [(0, .goto 4, 3), (3, .iconst 0, 1), (4, .iconst 2, 1), (5, .invokevirtual 17, 3), (8, .ifCond .eq 5, 3), (11, .iconst 0, 1), (12, .ireturn, 1), (13, .aload_n 0, 1), (14, .getfield 7, 3), (17, .iload_n 3, 1), (18, .laload, 1), (19, .invokestatic 33, 3), (22, .iconst 1, 1), (23, .bipush 12, 2)] := dw_all (l := [167, 0, 4, 3, 5, 182, 0, 17, 153, 0, 5, 3, 172, 42, 180, 0, 7, 29, 47, 184, 0, 33, 4, 16, 12]) (by decide +kernel)
theorem dX5_power_48 : decode cX5_power 48 = .ok (.goto 4, 3) := wtX5_power_48.1
theorem dX5_power_51 : decode cX5_power 51 = .ok (.iconst 0, 1) := wtX5_power_48.2.1
theorem dX5_power_52 : decode cX5_power 52 = .ok (.iconst 2, 1) := wtX5_power_48.2.2.1
theorem dX5_power_53 : decode cX5_power 53 = .ok (.invokevirtual 17, 3) := wtX5_power_48.2.2.2.1
theorem dX5_power_56 : decode cX5_power 56 = .ok (.ifCond .eq 5, 3) := wtX5_power_48.2.2.2.2.1
theorem dX5_power_59 : decode cX5_power 59 = .ok (.iconst 0, 1) := wtX5_power_48.2.2.2.2.2.1
theorem dX5_power_60 : decode cX5_power 60 = .ok (.ireturn, 1) := wtX5_power_48.2.2.2.2.2.2.1
theorem dX5_power_61 : decode cX5_power 61 = .ok (.aload_n 0, 1) := wtX5_power_48.2.2.2.2.2.2.2.1
theorem dX5_power_62 : decode cX5_power 62 = .ok (.getfield 7, 3) := wtX5_power_48.2.2.2.2.2.2.2.2.1
theorem dX5_power_65 : decode cX5_power 65 = .ok (.iload_n 3, 1) := wtX5_power_48.2.2.2.2.2.2.2.2.2.1
theorem dX5_power_66 : decode cX5_power 66 = .ok (.laload, 1) := wtX5_power_48.2.2.2.2.2.2.2.2.2.2.1
theorem dX5_power_67 : decode cX5_power 67 = .ok (.invokestatic 33, 3) := wtX5_power_48.2.2.2.2.2.2.2.2.2.2.2.1
theorem dX5_power_70 : decode cX5_power 70 = .ok (.iconst 1, 1) := wtX5_power_48.2.2.2.2.2.2.2.2.2.2.2.2.1
theorem dX5_power_71 : decode cX5_power 71 = .ok (.bipush 12, 2) := wtX5_power_48.2.2.2.2.2.2.2.2.2.2.2.2.2.1
theorem wtX5_power_73 : dwcj cX5_power 73 [(0, .invokestatic 21, 3), (3, .ifCond .ne 8, 3), (6, .aload_n 0, 1), (7, .invokevirtual 63, 3), (10, .ireturn, 1), (11, .aload_n 0, 1), (12, .getfield 7, 3), (15, .iload_n 1, 1), (16, .laload, 1), (17, .aload_n 0, 1), (18, .getfield 7, 3), (21, .iload_n 3, 1), (22, .laload, 1), (23, .invokestatic 46, 3)] := dw_all (l := [184, 0, 21, 154, 0, 8, 42, 182, 0, 63, 172, 42, 180, 0, 7, 27, 47, 42, 180, 0, 7, 29, 47, 184, 0, 46]) (by decide +kernel)
theorem dX5_power_73 : decode cX5_power 73 = .ok (.invokestatic 21, 3) := wtX5_power_73.1
theorem dX5_power_76 : decode cX5_power 76 = .ok (.ifCond .ne 8, 3) := wtX5_power_73.2.1
theorem dX5_power_79 : decode cX5_power 79 = .ok (.aload_n 0, 1) := wtX5_power_73.2.2.1
theorem dX5_power_80 : decode cX5_power 80 = .ok (.invokevirtual 63, 3) := wtX5_power_73.2.2.2.1
theorem dX5_power_83 : decode cX5_power 83 = .ok (.ireturn, 1) := wtX5_power_73.2.2.2.2.1
theorem dX5_power_84 : decode cX5_power 84 = .ok (.aload_n 0, 1) := wtX5_power_73.2.2.2.2.2.1
theorem dX5_power_85 : decode cX5_power 85 = .ok (.getfield 7, 3) := wtX5_power_73.2.2.2.2.2.2.1
theorem dX5_power_88 : decode cX5_power 88 = .ok (.iload_n 1, 1) := wtX5_power_73.2.2.2.2.2.2.2.1
theorem dX5_power_89 : decode cX5_power 89 = .ok (.laload, 1) := wtX5_power_73.2.2.2.2.2.2.2.2.1
theorem dX5_power_90 : decode cX5_power 90 = .ok (.aload_n 0, 1) := wtX5_power_73.2.2.2.2.2.2.2.2.2.1
theorem dX5_power_91 : decode cX5_power 91 = .ok (.getfield 7, 3) := wtX5_power_73.2.2.2.2.2.2.2.2.2.2.1
theorem dX5_power_94 : decode cX5_power 94 = .ok (.iload_n 3, 1) := wtX5_power_73.2.2.2.2.2.2.2.2.2.2.2.1
theorem dX5_power_95 : decode cX5_power 95 = .ok (.laload, 1) := wtX5_power_73.2.2.2.2.2.2.2.2.2.2.2.2.1
theorem dX5_power_96 : decode cX5_power 96 = .ok (.invokestatic 46, 3) := wtX5_power_73.2.2.2.2.2.2.2.2.2.2.2.2.2.1
theorem wtX5_power_99 : dwcj cX5_power 99 [(0, .lstore 5, 2), (2, .lconst 1, 1), (3, .lstore 7, 2), (5, .iconst 0, 1), (6, .istore 9, 2), (8, .iload 9, 2), (10, .iload_n 2, 1), (11, .if_icmp .ge 27, 3), (14, .lload 7, 2), (16, .lload 5, 2), (18, .invokestatic 41, 3), (21, .aload_n 0, 1), (22, .getfield 7, 3)] := dw_all (l := [55, 5, 10, 55, 7, 3, 54, 9, 21, 9, 28, 162, 0, 27, 22, 7, 22, 5, 184, 0, 41, 42, 180, 0, 7]) (by decide +kernel)
theorem dX5_power_99 : decode cX5_power 99 = .ok (.lstore 5, 2) := wtX5_power_99.1
theorem dX5_power_101 : decode cX5_power 101 = .ok (.lconst 1, 1) := wtX5_power_99.2.1
theorem dX5_power_102 : decode cX5_power 102 = .ok (.lstore 7, 2) := wtX5_power_99.2.2.1
theorem dX5_power_104 : decode cX5_power 104 = .ok (.iconst 0, 1) := wtX5_power_99.2.2.2.1
theorem dX5_power_105 : decode cX5_power 105 = .ok (.istore 9, 2) := wtX5_power_99.2.2.2.2.1
theorem dX5_power_107 : decode cX5_power 107 = .ok (.iload 9, 2) := wtX5_power_99.2.2.2.2.2.1
theorem dX5_power_109 : decode cX5_power 109 = .ok (.iload_n 2, 1) := wtX5_power_99.2.2.2.2.2.2.1
theorem dX5_power_110 : decode cX5_power 110 = .ok (.if_icmp .ge 27, 3) := wtX5_power_99.2.2.2.2.2.2.2.1
theorem dX5_power_113 : decode cX5_power 113 = .ok (.lload 7, 2) := wtX5_power_99.2.2.2.2.2.2.2.2.1
theorem dX5_power_115 : decode cX5_power 115 = .ok (.lload 5, 2) := wtX5_power_99.2.2.2.2.2.2.2.2.2.1
theorem dX5_power_117 : decode cX5_power 117 = .ok (.invokestatic 41, 3) := wtX5_power_99.2.2.2.2.2.2.2.2.2.2.1
theorem dX5_power_120 : decode cX5_power 120 = .ok (.aload_n 0, 1) := wtX5_power_99.2.2.2.2.2.2.2.2.2.2.2.1
theorem dX5_power_121 : decode cX5_power 121 = .ok (.getfield 7, 3) := wtX5_power_99.2.2.2.2.2.2.2.2.2.2.2.2.1
theorem wtX5_power_124 : dwcj cX5_power 124 [(0, .iload_n 3, 1), (1, .laload, 1), (2, .invokestatic 46, 3), (5, .lstore 7, 2), (7, .iinc 9 1, 3), (10, .goto (-27), 3), (13, .aload_n 0, 1), (14, .iload 4, 2), (16, .lload 7, 2), (18, .invokevirtual 59, 3), (21, .ireturn, 1)] := dw_all (l := [29, 47, 184, 0, 46, 55, 7, 132, 9, 1, 167, 255, 229, 42, 21, 4, 22, 7, 182, 0, 59, 172]) (by decide +kernel)
theorem dX5_power_124 : decode cX5_power 124 = .ok (.iload_n 3, 1) := wtX5_power_124.1
theorem dX5_power_125 : decode cX5_power 125 = .ok (.laload, 1) := wtX5_power_124.2.1
theorem dX5_power_126 : decode cX5_power 126 = .ok (.invokestatic 46, 3) := wtX5_power_124.2.2.1
theorem dX5_power_129 : decode cX5_power 129 = .ok (.lstore 7, 2) := wtX5_power_124.2.2.2.1
theorem dX5_power_131 : decode cX5_power 131 = .ok (.iinc 9 1, 3) := wtX5_power_124.2.2.2.2.1
theorem dX5_power_134 : decode cX5_power 134 = .ok (.goto (-27), 3) := wtX5_power_124.2.2.2.2.2.1
theorem dX5_power_137 : decode cX5_power 137 = .ok (.aload_n 0, 1) := wtX5_power_124.2.2.2.2.2.2.1
theorem dX5_power_138 : decode cX5_power 138 = .ok (.iload 4, 2) := wtX5_power_124.2.2.2.2.2.2.2.1
theorem dX5_power_140 : decode cX5_power 140 = .ok (.lload 7, 2) := wtX5_power_124.2.2.2.2.2.2.2.2.1
theorem dX5_power_142 : decode cX5_power 142 = .ok (.invokevirtual 59, 3) := wtX5_power_124.2.2.2.2.2.2.2.2.2.1
theorem dX5_power_145 : decode cX5_power 145 = .ok (.ireturn, 1) := wtX5_power_124.2.2.2.2.2.2.2.2.2.2.1
theorem wtX5_nth_0 : dwcj cX5_nth 0 [(0, .aload_n 0, 1), (1, .iload_n 3, 1), (2, .invokestatic 67, 3), (5, .iconst 1, 1), (6, .invokevirtual 71, 3), (9, .ifCond .ne 36, 3), (12, .aload_n 0, 1), (13, .iload_n 1, 1), (14, .iconst 1, 1), (15, .bipush 8, 2), (17, .invokestatic 21, 3), (20, .ifCond .eq 13, 3), (23, .iload_n 2, 1)] := dw_all (l := [42, 29, 184, 0, 67, 4, 182, 0, 71, 154, 0, 36, 42, 27, 4, 16, 8, 184, 0, 21, 153, 0, 13, 28]) (by decide +kernel)
theorem dX5_nth_0 : decode cX5_nth 0 = .ok (.aload_n 0, 1) := wtX5_nth_0.1
theorem dX5_nth_1 : decode cX5_nth 1 = .ok (.iload_n 3, 1) := wtX5_nth_0.2.1
theorem dX5_nth_2 : decode cX5_nth 2 = .ok (.invokestatic 67, 3) := wtX5_nth_0.2.2.1
theorem dX5_nth_5 : decode cX5_nth 5 = .ok (.iconst 1, 1) := wtX5_nth_0.2.2.2.1
theorem dX5_nth_6 : decode cX5_nth 6 = .ok (.invokevirtual 71, 3) := wtX5_nth_0.2.2.2.2.1
theorem dX5_nth_9 : decode cX5_nth 9 = .ok (.ifCond .ne 36, 3) := wtX5_nth_0.2.2.2.2.2.1
theorem dX5_nth_12 : decode cX5_nth 12 = .ok (.aload_n 0, 1) := wtX5_nth_0.2.2.2.2.2.2.1
theorem dX5_nth_13 : decode cX5_nth 13 = .ok (.iload_n 1, 1) := wtX5_nth_0.2.2.2.2.2.2.2.1
theorem dX5_nth_14 : decode cX5_nth 14 = .ok (.iconst 1, 1) := wtX5_nth_0.2.2.2.2.2.2.2.2.1
theorem dX5_nth_15 : decode cX5_nth 15 = .ok (.bipush 8, 2) := wtX5_nth_0.2.2.2.2.2.2.2.2.2.1
theorem dX5_nth_17 : decode cX5_nth 17 = .ok (.invokestatic 21, 3) := wtX5_nth_0.2.2.2.2.2.2.2.2.2.2.1
theorem dX5_nth_20 : decode cX5_nth 20 = .ok (.ifCond .eq 13, 3) := wtX5_nth_0.2.2.2.2.2.2.2.2.2.2.2.1
theorem dX5_nth_23 : decode cX5_nth 23 = .ok (.iload_n 2, 1) := wtX5_nth_0.2.2.2.2.2.2.2.2.2.2.2.2.1
theorem wtX5_nth_24 : dwcj cX5_nth 24 [(0, .iconst 0, 1), (1, .bipush 40, 2), (3, .invokestatic 21, 3), (6, .ifCond .ne 7, 3), (9, .iconst 1, 1), (10, .goto 4, 3), (13, .iconst 0, 1), (14, .iconst 2, 1), (15, .invokevirtual 17, 3), (18, .ifCond .eq 5, 3), (21, .iconst 0, 1), (22, .ireturn, 1), (23, .iconst 0, 1)] := dw_all (l := [3, 16, 40, 184, 0, 21, 154, 0, 7, 4, 167, 0, 4, 3, 5, 182, 0, 17, 153, 0, 5, 3, 172, 3]) (by decide +kernel)
theorem dX5_nth_24 : decode cX5_nth 24 = .ok (.iconst 0, 1) := wtX5_nth_24.1
theorem dX5_nth_25 : decode cX5_nth 25 = .ok (.bipush 40, 2) := wtX5_nth_24.2.1
theorem dX5_nth_27 : decode cX5_nth 27 = .ok (.invokestatic 21, 3) := wtX5_nth_24.2.2.1
theorem dX5_nth_30 : decode cX5_nth 30 = .ok (.ifCond .ne 7, 3) := wtX5_nth_24.2.2.2.1
theorem dX5_nth_33 : decode cX5_nth 33 = .ok (.iconst 1, 1) := wtX5_nth_24.2.2.2.2.1
theorem dX5_nth_34 : decode cX5_nth 34 = .ok (.goto 4, 3) := wtX5_nth_24.2.2.2.2.2.1
theorem dX5_nth_37 : decode cX5_nth 37 = .ok (.iconst 0, 1) := wtX5_nth_24.2.2.2.2.2.2.1
theorem dX5_nth_38 : decode cX5_nth 38 = .ok (.iconst 2, 1) := wtX5_nth_24.2.2.2.2.2.2.2.1
theorem dX5_nth_39 : decode cX5_nth 39 = .ok (.invokevirtual 17, 3) := wtX5_nth_24.2.2.2.2.2.2.2.2.1
theorem dX5_nth_42 : decode cX5_nth 42 = .ok (.ifCond .eq 5, 3) := wtX5_nth_24.2.2.2.2.2.2.2.2.2.1
theorem dX5_nth_45 : decode cX5_nth 45 = .ok (.iconst 0, 1) := wtX5_nth_24.2.2.2.2.2.2.2.2.2.2.1
theorem dX5_nth_46 : decode cX5_nth 46 = .ok (.ireturn, 1) := wtX5_nth_24.2.2.2.2.2.2.2.2.2.2.2.1
theorem dX5_nth_47 : decode cX5_nth 47 = .ok (.iconst 0, 1) := wtX5_nth_24.2.2.2.2.2.2.2.2.2.2.2.2.1
theorem wtX5_nth_48 : dwcj cX5_nth 48 [(0, .istore 4, 2), (2, .lconst 1, 1), (3, .iload_n 1, 1), (4, .lshl, 1), (5, .lstore 5, 2), (7, .lload 5, 2), (9, .ldc2_w 44, 3), (12, .iload_n 1, 1), (13, .lshl, 1), (14, .lcmp, 1), (15, .ifCond .ge 40, 3), (18, .lload 5, 2), (20, .invokestatic 49, 3), (23, .ifCond .ne 6, 3)] := dw_all (l := [54, 4, 10, 27, 121, 55, 5, 22, 5, 20, 0, 44, 27, 121, 148, 156, 0, 40, 22, 5, 184, 0, 49, 154, 0, 6]) (by decide +kernel)
theorem dX5_nth_48 : decode cX5_nth 48 = .ok (.istore 4, 2) := wtX5_nth_48.1
theorem dX5_nth_50 : decode cX5_nth 50 = .ok (.lconst 1, 1) := wtX5_nth_48.2.1
theorem dX5_nth_51 : decode cX5_nth 51 = .ok (.iload_n 1, 1) := wtX5_nth_48.2.2.1
theorem dX5_nth_52 : decode cX5_nth 52 = .ok (.lshl, 1) := wtX5_nth_48.2.2.2.1
theorem dX5_nth_53 : decode cX5_nth 53 = .ok (.lstore 5, 2) := wtX5_nth_48.2.2.2.2.1
theorem dX5_nth_55 : decode cX5_nth 55 = .ok (.lload 5, 2) := wtX5_nth_48.2.2.2.2.2.1
theorem dX5_nth_57 : decode cX5_nth 57 = .ok (.ldc2_w 44, 3) := wtX5_nth_48.2.2.2.2.2.2.1
theorem dX5_nth_60 : decode cX5_nth 60 = .ok (.iload_n 1, 1) := wtX5_nth_48.2.2.2.2.2.2.2.1
theorem dX5_nth_61 : decode cX5_nth 61 = .ok (.lshl, 1) := wtX5_nth_48.2.2.2.2.2.2.2.2.1
theorem dX5_nth_62 : decode cX5_nth 62 = .ok (.lcmp, 1) := wtX5_nth_48.2.2.2.2.2.2.2.2.2.1
theorem dX5_nth_63 : decode cX5_nth 63 = .ok (.ifCond .ge 40, 3) := wtX5_nth_48.2.2.2.2.2.2.2.2.2.2.1
theorem dX5_nth_66 : decode cX5_nth 66 = .ok (.lload 5, 2) := wtX5_nth_48.2.2.2.2.2.2.2.2.2.2.2.1
theorem dX5_nth_68 : decode cX5_nth 68 = .ok (.invokestatic 49, 3) := wtX5_nth_48.2.2.2.2.2.2.2.2.2.2.2.2.1
theorem dX5_nth_71 : decode cX5_nth 71 = .ok (.ifCond .ne 6, 3) := wtX5_nth_48.2.2.2.2.2.2.2.2.2.2.2.2.2.1
theorem wtX5_nth_74 : dwcj cX5_nth 74 [(0, .goto 20, 3), (3, .iload 4, 2), (5, .iload_n 2, 1), (6, .if_icmp .ne 11, 3), (9, .aload_n 0, 1), (10, .iload_n 3, 1), (11, .lload 5, 2), (13, .invokevirtual 59, 3), (16, .ireturn, 1), (17, .iinc 4 1, 3), (20, .lload 5, 2), (22, .lconst 1, 1), (23, .ladd, 1)] := dw_all (l := [167, 0, 20, 21, 4, 28, 160, 0, 11, 42, 29, 22, 5, 182, 0, 59, 172, 132, 4, 1, 22, 5, 10, 97]) (by decide +kernel)
theorem dX5_nth_74 : decode cX5_nth 74 = .ok (.goto 20, 3) := wtX5_nth_74.1
theorem dX5_nth_77 : decode cX5_nth 77 = .ok (.iload 4, 2) := wtX5_nth_74.2.1
theorem dX5_nth_79 : decode cX5_nth 79 = .ok (.iload_n 2, 1) := wtX5_nth_74.2.2.1
theorem dX5_nth_80 : decode cX5_nth 80 = .ok (.if_icmp .ne 11, 3) := wtX5_nth_74.2.2.2.1
theorem dX5_nth_83 : decode cX5_nth 83 = .ok (.aload_n 0, 1) := wtX5_nth_74.2.2.2.2.1
theorem dX5_nth_84 : decode cX5_nth 84 = .ok (.iload_n 3, 1) := wtX5_nth_74.2.2.2.2.2.1
theorem dX5_nth_85 : decode cX5_nth 85 = .ok (.lload 5, 2) := wtX5_nth_74.2.2.2.2.2.2.1
theorem dX5_nth_87 : decode cX5_nth 87 = .ok (.invokevirtual 59, 3) := wtX5_nth_74.2.2.2.2.2.2.2.1
theorem dX5_nth_90 : decode cX5_nth 90 = .ok (.ireturn, 1) := wtX5_nth_74.2.2.2.2.2.2.2.2.1
theorem dX5_nth_91 : decode cX5_nth 91 = .ok (.iinc 4 1, 3) := wtX5_nth_74.2.2.2.2.2.2.2.2.2.1
theorem dX5_nth_94 : decode cX5_nth 94 = .ok (.lload 5, 2) := wtX5_nth_74.2.2.2.2.2.2.2.2.2.2.1
theorem dX5_nth_96 : decode cX5_nth 96 = .ok (.lconst 1, 1) := wtX5_nth_74.2.2.2.2.2.2.2.2.2.2.2.1
theorem dX5_nth_97 : decode cX5_nth 97 = .ok (.ladd, 1) := wtX5_nth_74.2.2.2.2.2.2.2.2.2.2.2.2.1
theorem wtX5_nth_98 : dwcj cX5_nth 98 [(0, .lstore 5, 2), (2, .goto (-45), 3), (5, .aload_n 0, 1), (6, .invokevirtual 63, 3), (9, .ireturn, 1)] := dw_all (l := [55, 5, 167, 255, 211, 42, 182, 0, 63, 172]) (by decide +kernel)
theorem dX5_nth_98 : decode cX5_nth 98 = .ok (.lstore 5, 2) := wtX5_nth_98.1
theorem dX5_nth_100 : decode cX5_nth 100 = .ok (.goto (-45), 3) := wtX5_nth_98.2.1
theorem dX5_nth_103 : decode cX5_nth 103 = .ok (.aload_n 0, 1) := wtX5_nth_98.2.2.1
theorem dX5_nth_104 : decode cX5_nth 104 = .ok (.invokevirtual 63, 3) := wtX5_nth_98.2.2.2.1
theorem dX5_nth_107 : decode cX5_nth 107 = .ok (.ireturn, 1) := wtX5_nth_98.2.2.2.2.1
theorem wtX5_field_0 : dwcj cX5_field 0 [(0, .aload_n 0, 1), (1, .iload_n 2, 1), (2, .invokestatic 67, 3), (5, .iconst 1, 1), (6, .invokevirtual 71, 3), (9, .ifCond .ne 25, 3), (12, .aload_n 0, 1), (13, .iload_n 1, 1), (14, .iconst 1, 1), (15, .iconst 5, 1), (16, .invokestatic 21, 3), (19, .ifCond .ne 7, 3), (22, .iconst 1, 1), (23, .goto 4, 3)] := dw_all (l := [42, 28, 184, 0, 67, 4, 182, 0, 71, 154, 0, 25, 42, 27, 4, 8, 184, 0, 21, 154, 0, 7, 4, 167, 0, 4]) (by decide +kernel)
theorem dX5_field_0 : decode cX5_field 0 = .ok (.aload_n 0, 1) := wtX5_field_0.1
theorem dX5_field_1 : decode cX5_field 1 = .ok (.iload_n 2, 1) := wtX5_field_0.2.1
theorem dX5_field_2 : decode cX5_field 2 = .ok (.invokestatic 67, 3) := wtX5_field_0.2.2.1
theorem dX5_field_5 : decode cX5_field 5 = .ok (.iconst 1, 1) := wtX5_field_0.2.2.2.1
theorem dX5_field_6 : decode cX5_field 6 = .ok (.invokevirtual 71, 3) := wtX5_field_0.2.2.2.2.1
theorem dX5_field_9 : decode cX5_field 9 = .ok (.ifCond .ne 25, 3) := wtX5_field_0.2.2.2.2.2.1
theorem dX5_field_12 : decode cX5_field 12 = .ok (.aload_n 0, 1) := wtX5_field_0.2.2.2.2.2.2.1
theorem dX5_field_13 : decode cX5_field 13 = .ok (.iload_n 1, 1) := wtX5_field_0.2.2.2.2.2.2.2.1
theorem dX5_field_14 : decode cX5_field 14 = .ok (.iconst 1, 1) := wtX5_field_0.2.2.2.2.2.2.2.2.1
theorem dX5_field_15 : decode cX5_field 15 = .ok (.iconst 5, 1) := wtX5_field_0.2.2.2.2.2.2.2.2.2.1
theorem dX5_field_16 : decode cX5_field 16 = .ok (.invokestatic 21, 3) := wtX5_field_0.2.2.2.2.2.2.2.2.2.2.1
theorem dX5_field_19 : decode cX5_field 19 = .ok (.ifCond .ne 7, 3) := wtX5_field_0.2.2.2.2.2.2.2.2.2.2.2.1
theorem dX5_field_22 : decode cX5_field 22 = .ok (.iconst 1, 1) := wtX5_field_0.2.2.2.2.2.2.2.2.2.2.2.2.1
theorem dX5_field_23 : decode cX5_field 23 = .ok (.goto 4, 3) := wtX5_field_0.2.2.2.2.2.2.2.2.2.2.2.2.2.1
theorem wtX5_field_26 : dwcj cX5_field 26 [(0, .iconst 0, 1), (1, .iconst 2, 1), (2, .invokevirtual 17, 3), (5, .ifCond .eq 5, 3), (8, .iconst 0, 1), (9, .ireturn, 1), (10, .lconst 1, 1), (11, .lstore_n 3, 1), (12, .ldc2_w 44, 3), (15, .lstore 5, 2), (17, .lload 5, 2), (19, .ldc2_w 44, 3), (22, .iload_n 1, 1), (23, .lshl, 1)] := dw_all (l := [3, 5, 182, 0, 17, 153, 0, 5, 3, 172, 10, 66, 20, 0, 44, 55, 5, 22, 5, 20, 0, 44, 27, 121]) (by decide +kernel)
theorem dX5_field_26 : decode cX5_field 26 = .ok (.iconst 0, 1) := wtX5_field_26.1
theorem dX5_field_27 : decode cX5_field 27 = .ok (.iconst 2, 1) := wtX5_field_26.2.1
theorem dX5_field_28 : decode cX5_field 28 = .ok (.invokevirtual 17, 3) := wtX5_field_26.2.2.1
theorem dX5_field_31 : decode cX5_field 31 = .ok (.ifCond .eq 5, 3) := wtX5_field_26.2.2.2.1
theorem dX5_field_34 : decode cX5_field 34 = .ok (.iconst 0, 1) := wtX5_field_26.2.2.2.2.1
theorem dX5_field_35 : decode cX5_field 35 = .ok (.ireturn, 1) := wtX5_field_26.2.2.2.2.2.1
theorem dX5_field_36 : decode cX5_field 36 = .ok (.lconst 1, 1) := wtX5_field_26.2.2.2.2.2.2.1
theorem dX5_field_37 : decode cX5_field 37 = .ok (.lstore_n 3, 1) := wtX5_field_26.2.2.2.2.2.2.2.1
theorem dX5_field_38 : decode cX5_field 38 = .ok (.ldc2_w 44, 3) := wtX5_field_26.2.2.2.2.2.2.2.2.1
theorem dX5_field_41 : decode cX5_field 41 = .ok (.lstore 5, 2) := wtX5_field_26.2.2.2.2.2.2.2.2.2.1
theorem dX5_field_43 : decode cX5_field 43 = .ok (.lload 5, 2) := wtX5_field_26.2.2.2.2.2.2.2.2.2.2.1
theorem dX5_field_45 : decode cX5_field 45 = .ok (.ldc2_w 44, 3) := wtX5_field_26.2.2.2.2.2.2.2.2.2.2.2.1
theorem dX5_field_48 : decode cX5_field 48 = .ok (.iload_n 1, 1) := wtX5_field_26.2.2.2.2.2.2.2.2.2.2.2.2.1
theorem dX5_field_49 : decode cX5_field 49 = .ok (.lshl, 1) := wtX5_field_26.2.2.2.2.2.2.2.2.2.2.2.2.2.1
theorem wtX5_field_50 : dwcj cX5_field 50 [(0, .lcmp, 1), (1, .ifCond .ge 37, 3), (4, .iload_n 1, 1), (5, .lload 5, 2), (7, .invokestatic 33, 3), (10, .irem, 1), (11, .ifCond .ne 18, 3), (14, .lload 5, 2), (16, .invokestatic 49, 3), (19, .ifCond .eq 10, 3), (22, .lload_n 3, 1), (23, .lload 5, 2)] := dw_all (l := [148, 156, 0, 37, 27, 22, 5, 184, 0, 33, 112, 154, 0, 18, 22, 5, 184, 0, 49, 153, 0, 10, 33, 22, 5]) (by decide +kernel)
theorem dX5_field_50 : decode cX5_field 50 = .ok (.lcmp, 1) := wtX5_field_50.1
theorem dX5_field_51 : decode cX5_field 51 = .ok (.ifCond .ge 37, 3) := wtX5_field_50.2.1
theorem dX5_field_54 : decode cX5_field 54 = .ok (.iload_n 1, 1) := wtX5_field_50.2.2.1
theorem dX5_field_55 : decode cX5_field 55 = .ok (.lload 5, 2) := wtX5_field_50.2.2.2.1
theorem dX5_field_57 : decode cX5_field 57 = .ok (.invokestatic 33, 3) := wtX5_field_50.2.2.2.2.1
theorem dX5_field_60 : decode cX5_field 60 = .ok (.irem, 1) := wtX5_field_50.2.2.2.2.2.1
theorem dX5_field_61 : decode cX5_field 61 = .ok (.ifCond .ne 18, 3) := wtX5_field_50.2.2.2.2.2.2.1
theorem dX5_field_64 : decode cX5_field 64 = .ok (.lload 5, 2) := wtX5_field_50.2.2.2.2.2.2.2.1
theorem dX5_field_66 : decode cX5_field 66 = .ok (.invokestatic 49, 3) := wtX5_field_50.2.2.2.2.2.2.2.2.1
theorem dX5_field_69 : decode cX5_field 69 = .ok (.ifCond .eq 10, 3) := wtX5_field_50.2.2.2.2.2.2.2.2.2.1
theorem dX5_field_72 : decode cX5_field 72 = .ok (.lload_n 3, 1) := wtX5_field_50.2.2.2.2.2.2.2.2.2.2.1
theorem dX5_field_73 : decode cX5_field 73 = .ok (.lload 5, 2) := wtX5_field_50.2.2.2.2.2.2.2.2.2.2.2.1
theorem wtX5_field_75 : dwcj cX5_field 75 [(0, .invokestatic 41, 3), (3, .lstore_n 3, 1), (4, .lload 5, 2), (6, .lconst 1, 1), (7, .ladd, 1), (8, .lstore 5, 2), (10, .goto (-42), 3), (13, .aload_n 0, 1), (14, .iload_n 2, 1), (15, .lload_n 3, 1), (16, .invokevirtual 59, 3), (19, .ireturn, 1)] := dw_all (l := [184, 0, 41, 66, 22, 5, 10, 97, 55, 5, 167, 255, 214, 42, 28, 33, 182, 0, 59, 172]) (by decide +kernel)
theorem dX5_field_75 : decode cX5_field 75 = .ok (.invokestatic 41, 3) := wtX5_field_75.1
theorem dX5_field_78 : decode cX5_field 78 = .ok (.lstore_n 3, 1) := wtX5_field_75.2.1
theorem dX5_field_79 : decode cX5_field 79 = .ok (.lload 5, 2) := wtX5_field_75.2.2.1
theorem dX5_field_81 : decode cX5_field 81 = .ok (.lconst 1, 1) := wtX5_field_75.2.2.2.1
theorem dX5_field_82 : decode cX5_field 82 = .ok (.ladd, 1) := wtX5_field_75.2.2.2.2.1
theorem dX5_field_83 : decode cX5_field 83 = .ok (.lstore 5, 2) := wtX5_field_75.2.2.2.2.2.1
theorem dX5_field_85 : decode cX5_field 85 = .ok (.goto (-42), 3) := wtX5_field_75.2.2.2.2.2.2.1
theorem dX5_field_88 : decode cX5_field 88 = .ok (.aload_n 0, 1) := wtX5_field_75.2.2.2.2.2.2.2.1
theorem dX5_field_89 : decode cX5_field 89 = .ok (.iload_n 2, 1) := wtX5_field_75.2.2.2.2.2.2.2.2.1
theorem dX5_field_90 : decode cX5_field 90 = .ok (.lload_n 3, 1) := wtX5_field_75.2.2.2.2.2.2.2.2.2.1
theorem dX5_field_91 : decode cX5_field 91 = .ok (.invokevirtual 59, 3) := wtX5_field_75.2.2.2.2.2.2.2.2.2.2.1
theorem dX5_field_94 : decode cX5_field 94 = .ok (.ireturn, 1) := wtX5_field_75.2.2.2.2.2.2.2.2.2.2.2.1
theorem wtX5_again_0 : dwcj cX5_again 0 [(0, .aload_n 0, 1), (1, .iload_n 1, 1), (2, .invokestatic 67, 3), (5, .ifCond .ne 10, 3), (8, .iload_n 3, 1), (9, .invokestatic 67, 3), (12, .ifCond .eq 7, 3), (15, .iconst 1, 1), (16, .goto 4, 3), (19, .iconst 0, 1), (20, .iconst 1, 1), (21, .invokevirtual 71, 3)] := dw_all (l := [42, 27, 184, 0, 67, 154, 0, 10, 29, 184, 0, 67, 153, 0, 7, 4, 167, 0, 4, 3, 4, 182, 0, 71]) (by decide +kernel)
theorem dX5_again_0 : decode cX5_again 0 = .ok (.aload_n 0, 1) := wtX5_again_0.1
theorem dX5_again_1 : decode cX5_again 1 = .ok (.iload_n 1, 1) := wtX5_again_0.2.1
theorem dX5_again_2 : decode cX5_again 2 = .ok (.invokestatic 67, 3) := wtX5_again_0.2.2.1
theorem dX5_again_5 : decode cX5_again 5 = .ok (.ifCond .ne 10, 3) := wtX5_again_0.2.2.2.1
theorem dX5_again_8 : decode cX5_again 8 = .ok (.iload_n 3, 1) := wtX5_again_0.2.2.2.2.1
theorem dX5_again_9 : decode cX5_again 9 = .ok (.invokestatic 67, 3) := wtX5_again_0.2.2.2.2.2.1
theorem dX5_again_12 : decode cX5_again 12 = .ok (.ifCond .eq 7, 3) := wtX5_again_0.2.2.2.2.2.2.1
theorem dX5_again_15 : decode cX5_again 15 = .ok (.iconst 1, 1) := wtX5_again_0.2.2.2.2.2.2.2.1
theorem dX5_again_16 : decode cX5_again 16 = .ok (.goto 4, 3) := wtX5_again_0.2.2.2.2.2.2.2.2.1
theorem dX5_again_19 : decode cX5_again 19 = .ok (.iconst 0, 1) := wtX5_again_0.2.2.2.2.2.2.2.2.2.1
theorem dX5_again_20 : decode cX5_again 20 = .ok (.iconst 1, 1) := wtX5_again_0.2.2.2.2.2.2.2.2.2.2.1
theorem dX5_again_21 : decode cX5_again 21 = .ok (.invokevirtual 71, 3) := wtX5_again_0.2.2.2.2.2.2.2.2.2.2.2.1
theorem wtX5_again_24 : dwcj cX5_again 24 [(0, .ifCond .ne 26, 3), (3, .aload_n 0, 1), (4, .iload_n 2, 1), (5, .iconst 2, 1), (6, .bipush 36, 2), (8, .invokestatic 21, 3), (11, .ifCond .ne 7, 3), (14, .iconst 1, 1), (15, .goto 4, 3), (18, .iconst 0, 1), (19, .iconst 2, 1), (20, .invokevirtual 17, 3), (23, .ifCond .eq 7, 3)] := dw_all (l := [154, 0, 26, 42, 28, 5, 16, 36, 184, 0, 21, 154, 0, 7, 4, 167, 0, 4, 3, 5, 182, 0, 17, 153, 0, 7]) (by decide +kernel)
theorem dX5_again_24 : decode cX5_again 24 = .ok (.ifCond .ne 26, 3) := wtX5_again_24.1
theorem dX5_again_27 : decode cX5_again 27 = .ok (.aload_n 0, 1) := wtX5_again_24.2.1
theorem dX5_again_28 : decode cX5_again 28 = .ok (.iload_n 2, 1) := wtX5_again_24.2.2.1
theorem dX5_again_29 : decode cX5_again 29 = .ok (.iconst 2, 1) := wtX5_again_24.2.2.2.1
theorem dX5_again_30 : decode cX5_again 30 = .ok (.bipush 36, 2) := wtX5_again_24.2.2.2.2.1
theorem dX5_again_32 : decode cX5_again 32 = .ok (.invokestatic 21, 3) := wtX5_again_24.2.2.2.2.2.1
theorem dX5_again_35 : decode cX5_again 35 = .ok (.ifCond .ne 7, 3) := wtX5_again_24.2.2.2.2.2.2.1
theorem dX5_again_38 : decode cX5_again 38 = .ok (.iconst 1, 1) := wtX5_again_24.2.2.2.2.2.2.2.1
theorem dX5_again_39 : decode cX5_again 39 = .ok (.goto 4, 3) := wtX5_again_24.2.2.2.2.2.2.2.2.1
theorem dX5_again_42 : decode cX5_again 42 = .ok (.iconst 0, 1) := wtX5_again_24.2.2.2.2.2.2.2.2.2.1
theorem dX5_again_43 : decode cX5_again 43 = .ok (.iconst 2, 1) := wtX5_again_24.2.2.2.2.2.2.2.2.2.2.1
theorem dX5_again_44 : decode cX5_again 44 = .ok (.invokevirtual 17, 3) := wtX5_again_24.2.2.2.2.2.2.2.2.2.2.2.1
theorem dX5_again_47 : decode cX5_again 47 = .ok (.ifCond .eq 7, 3) := wtX5_again_24.2.2.2.2.2.2.2.2.2.2.2.2.1
theorem wtX5_again_50 : dwcj cX5_again 50 [(0, .iconst 0, 1), (1, .goto 14, 3), (4, .aload_n 0, 1), (5, .iload_n 3, 1), (6, .aload_n 0, 1), (7, .getfield 7, 3), (10, .iload_n 1, 1), (11, .laload, 1), (12, .invokevirtual 59, 3), (15, .ireturn, 1)] := dw_all (l := [3, 167, 0, 14, 42, 29, 42, 180, 0, 7, 27, 47, 182, 0, 59, 172]) (by decide +kernel)
theorem dX5_again_50 : decode cX5_again 50 = .ok (.iconst 0, 1) := wtX5_again_50.1
theorem dX5_again_51 : decode cX5_again 51 = .ok (.goto 14, 3) := wtX5_again_50.2.1
theorem dX5_again_54 : decode cX5_again 54 = .ok (.aload_n 0, 1) := wtX5_again_50.2.2.1
theorem dX5_again_55 : decode cX5_again 55 = .ok (.iload_n 3, 1) := wtX5_again_50.2.2.2.1
theorem dX5_again_56 : decode cX5_again 56 = .ok (.aload_n 0, 1) := wtX5_again_50.2.2.2.2.1
theorem dX5_again_57 : decode cX5_again 57 = .ok (.getfield 7, 3) := wtX5_again_50.2.2.2.2.2.1
theorem dX5_again_60 : decode cX5_again 60 = .ok (.iload_n 1, 1) := wtX5_again_50.2.2.2.2.2.2.1
theorem dX5_again_61 : decode cX5_again 61 = .ok (.laload, 1) := wtX5_again_50.2.2.2.2.2.2.2.1
theorem dX5_again_62 : decode cX5_again 62 = .ok (.invokevirtual 59, 3) := wtX5_again_50.2.2.2.2.2.2.2.2.1
theorem dX5_again_65 : decode cX5_again 65 = .ok (.ireturn, 1) := wtX5_again_50.2.2.2.2.2.2.2.2.2.1
theorem wtX5_degree_0 : dwcj cX5_degree 0 [(0, .aload_n 0, 1), (1, .iload_n 1, 1), (2, .invokestatic 67, 3), (5, .iconst 1, 1), (6, .invokevirtual 71, 3), (9, .ifCond .eq 7, 3), (12, .iconst 0, 1), (13, .goto 12, 3), (16, .aload_n 0, 1), (17, .getfield 7, 3), (20, .iload_n 1, 1), (21, .laload, 1), (22, .invokestatic 33, 3)] := dw_all (l := [42, 27, 184, 0, 67, 4, 182, 0, 71, 153, 0, 7, 3, 167, 0, 12, 42, 180, 0, 7, 27, 47, 184, 0, 33]) (by decide +kernel)
theorem dX5_degree_0 : decode cX5_degree 0 = .ok (.aload_n 0, 1) := wtX5_degree_0.1
theorem dX5_degree_1 : decode cX5_degree 1 = .ok (.iload_n 1, 1) := wtX5_degree_0.2.1
theorem dX5_degree_2 : decode cX5_degree 2 = .ok (.invokestatic 67, 3) := wtX5_degree_0.2.2.1
theorem dX5_degree_5 : decode cX5_degree 5 = .ok (.iconst 1, 1) := wtX5_degree_0.2.2.2.1
theorem dX5_degree_6 : decode cX5_degree 6 = .ok (.invokevirtual 71, 3) := wtX5_degree_0.2.2.2.2.1
theorem dX5_degree_9 : decode cX5_degree 9 = .ok (.ifCond .eq 7, 3) := wtX5_degree_0.2.2.2.2.2.1
theorem dX5_degree_12 : decode cX5_degree 12 = .ok (.iconst 0, 1) := wtX5_degree_0.2.2.2.2.2.2.1
theorem dX5_degree_13 : decode cX5_degree 13 = .ok (.goto 12, 3) := wtX5_degree_0.2.2.2.2.2.2.2.1
theorem dX5_degree_16 : decode cX5_degree 16 = .ok (.aload_n 0, 1) := wtX5_degree_0.2.2.2.2.2.2.2.2.1
theorem dX5_degree_17 : decode cX5_degree 17 = .ok (.getfield 7, 3) := wtX5_degree_0.2.2.2.2.2.2.2.2.2.1
theorem dX5_degree_20 : decode cX5_degree 20 = .ok (.iload_n 1, 1) := wtX5_degree_0.2.2.2.2.2.2.2.2.2.2.1
theorem dX5_degree_21 : decode cX5_degree 21 = .ok (.laload, 1) := wtX5_degree_0.2.2.2.2.2.2.2.2.2.2.2.1
theorem dX5_degree_22 : decode cX5_degree 22 = .ok (.invokestatic 33, 3) := wtX5_degree_0.2.2.2.2.2.2.2.2.2.2.2.2.1
theorem wtX5_degree_25 : dwcj cX5_degree 25 [(0, .ireturn, 1)] := dw_all (l := [172]) (by decide +kernel)
theorem dX5_degree_25 : decode cX5_degree 25 = .ok (.ireturn, 1) := wtX5_degree_25.1
theorem wtX5_low_0 : dwcj cX5_low 0 [(0, .aload_n 0, 1), (1, .iload_n 1, 1), (2, .invokestatic 67, 3), (5, .iconst 1, 1), (6, .invokevirtual 71, 3), (9, .ifCond .eq 7, 3), (12, .iconst 0, 1), (13, .goto 12, 3), (16, .aload_n 0, 1), (17, .getfield 7, 3), (20, .iload_n 1, 1), (21, .laload, 1), (22, .invokestatic 105, 3)] := dw_all (l := [42, 27, 184, 0, 67, 4, 182, 0, 71, 153, 0, 7, 3, 167, 0, 12, 42, 180, 0, 7, 27, 47, 184, 0, 105]) (by decide +kernel)
theorem dX5_low_0 : decode cX5_low 0 = .ok (.aload_n 0, 1) := wtX5_low_0.1
theorem dX5_low_1 : decode cX5_low 1 = .ok (.iload_n 1, 1) := wtX5_low_0.2.1
theorem dX5_low_2 : decode cX5_low 2 = .ok (.invokestatic 67, 3) := wtX5_low_0.2.2.1
theorem dX5_low_5 : decode cX5_low 5 = .ok (.iconst 1, 1) := wtX5_low_0.2.2.2.1
theorem dX5_low_6 : decode cX5_low 6 = .ok (.invokevirtual 71, 3) := wtX5_low_0.2.2.2.2.1
theorem dX5_low_9 : decode cX5_low 9 = .ok (.ifCond .eq 7, 3) := wtX5_low_0.2.2.2.2.2.1
theorem dX5_low_12 : decode cX5_low 12 = .ok (.iconst 0, 1) := wtX5_low_0.2.2.2.2.2.2.1
theorem dX5_low_13 : decode cX5_low 13 = .ok (.goto 12, 3) := wtX5_low_0.2.2.2.2.2.2.2.1
theorem dX5_low_16 : decode cX5_low 16 = .ok (.aload_n 0, 1) := wtX5_low_0.2.2.2.2.2.2.2.2.1
theorem dX5_low_17 : decode cX5_low 17 = .ok (.getfield 7, 3) := wtX5_low_0.2.2.2.2.2.2.2.2.2.1
theorem dX5_low_20 : decode cX5_low 20 = .ok (.iload_n 1, 1) := wtX5_low_0.2.2.2.2.2.2.2.2.2.2.1
theorem dX5_low_21 : decode cX5_low 21 = .ok (.laload, 1) := wtX5_low_0.2.2.2.2.2.2.2.2.2.2.2.1
theorem dX5_low_22 : decode cX5_low 22 = .ok (.invokestatic 105, 3) := wtX5_low_0.2.2.2.2.2.2.2.2.2.2.2.2.1
theorem wtX5_low_25 : dwcj cX5_low 25 [(0, .ireturn, 1)] := dw_all (l := [172]) (by decide +kernel)
theorem dX5_low_25 : decode cX5_low 25 = .ok (.ireturn, 1) := wtX5_low_25.1
theorem wtX5_weight_0 : dwcj cX5_weight 0 [(0, .aload_n 0, 1), (1, .iload_n 1, 1), (2, .invokestatic 67, 3), (5, .iconst 1, 1), (6, .invokevirtual 71, 3), (9, .ifCond .eq 7, 3), (12, .iconst 0, 1), (13, .goto 12, 3), (16, .aload_n 0, 1), (17, .getfield 7, 3), (20, .iload_n 1, 1), (21, .laload, 1), (22, .invokestatic 108, 3)] := dw_all (l := [42, 27, 184, 0, 67, 4, 182, 0, 71, 153, 0, 7, 3, 167, 0, 12, 42, 180, 0, 7, 27, 47, 184, 0, 108]) (by decide +kernel)
theorem dX5_weight_0 : decode cX5_weight 0 = .ok (.aload_n 0, 1) := wtX5_weight_0.1
theorem dX5_weight_1 : decode cX5_weight 1 = .ok (.iload_n 1, 1) := wtX5_weight_0.2.1
theorem dX5_weight_2 : decode cX5_weight 2 = .ok (.invokestatic 67, 3) := wtX5_weight_0.2.2.1
theorem dX5_weight_5 : decode cX5_weight 5 = .ok (.iconst 1, 1) := wtX5_weight_0.2.2.2.1
theorem dX5_weight_6 : decode cX5_weight 6 = .ok (.invokevirtual 71, 3) := wtX5_weight_0.2.2.2.2.1
theorem dX5_weight_9 : decode cX5_weight 9 = .ok (.ifCond .eq 7, 3) := wtX5_weight_0.2.2.2.2.2.1
theorem dX5_weight_12 : decode cX5_weight 12 = .ok (.iconst 0, 1) := wtX5_weight_0.2.2.2.2.2.2.1
theorem dX5_weight_13 : decode cX5_weight 13 = .ok (.goto 12, 3) := wtX5_weight_0.2.2.2.2.2.2.2.1
theorem dX5_weight_16 : decode cX5_weight 16 = .ok (.aload_n 0, 1) := wtX5_weight_0.2.2.2.2.2.2.2.2.1
theorem dX5_weight_17 : decode cX5_weight 17 = .ok (.getfield 7, 3) := wtX5_weight_0.2.2.2.2.2.2.2.2.2.1
theorem dX5_weight_20 : decode cX5_weight 20 = .ok (.iload_n 1, 1) := wtX5_weight_0.2.2.2.2.2.2.2.2.2.2.1
theorem dX5_weight_21 : decode cX5_weight 21 = .ok (.laload, 1) := wtX5_weight_0.2.2.2.2.2.2.2.2.2.2.2.1
theorem dX5_weight_22 : decode cX5_weight 22 = .ok (.invokestatic 108, 3) := wtX5_weight_0.2.2.2.2.2.2.2.2.2.2.2.2.1
theorem wtX5_weight_25 : dwcj cX5_weight 25 [(0, .ireturn, 1)] := dw_all (l := [172]) (by decide +kernel)
theorem dX5_weight_25 : decode cX5_weight 25 = .ok (.ireturn, 1) := wtX5_weight_25.1
theorem wtX5_at_0 : dwcj cX5_at 0 [(0, .aload_n 0, 1), (1, .iload_n 1, 1), (2, .invokestatic 67, 3), (5, .iconst 1, 1), (6, .invokevirtual 71, 3), (9, .ifCond .ne 43, 3), (12, .aload_n 0, 1), (13, .iload_n 2, 1), (14, .iconst 0, 1), (15, .bipush 99, 2), (17, .invokestatic 21, 3), (20, .ifCond .ne 7, 3), (23, .iconst 1, 1)] := dw_all (l := [42, 27, 184, 0, 67, 4, 182, 0, 71, 154, 0, 43, 42, 28, 3, 16, 99, 184, 0, 21, 154, 0, 7, 4]) (by decide +kernel)
theorem dX5_at_0 : decode cX5_at 0 = .ok (.aload_n 0, 1) := wtX5_at_0.1
theorem dX5_at_1 : decode cX5_at 1 = .ok (.iload_n 1, 1) := wtX5_at_0.2.1
theorem dX5_at_2 : decode cX5_at 2 = .ok (.invokestatic 67, 3) := wtX5_at_0.2.2.1
theorem dX5_at_5 : decode cX5_at 5 = .ok (.iconst 1, 1) := wtX5_at_0.2.2.2.1
theorem dX5_at_6 : decode cX5_at 6 = .ok (.invokevirtual 71, 3) := wtX5_at_0.2.2.2.2.1
theorem dX5_at_9 : decode cX5_at 9 = .ok (.ifCond .ne 43, 3) := wtX5_at_0.2.2.2.2.2.1
theorem dX5_at_12 : decode cX5_at 12 = .ok (.aload_n 0, 1) := wtX5_at_0.2.2.2.2.2.2.1
theorem dX5_at_13 : decode cX5_at 13 = .ok (.iload_n 2, 1) := wtX5_at_0.2.2.2.2.2.2.2.1
theorem dX5_at_14 : decode cX5_at 14 = .ok (.iconst 0, 1) := wtX5_at_0.2.2.2.2.2.2.2.2.1
theorem dX5_at_15 : decode cX5_at 15 = .ok (.bipush 99, 2) := wtX5_at_0.2.2.2.2.2.2.2.2.2.1
theorem dX5_at_17 : decode cX5_at 17 = .ok (.invokestatic 21, 3) := wtX5_at_0.2.2.2.2.2.2.2.2.2.2.1
theorem dX5_at_20 : decode cX5_at 20 = .ok (.ifCond .ne 7, 3) := wtX5_at_0.2.2.2.2.2.2.2.2.2.2.2.1
theorem dX5_at_23 : decode cX5_at 23 = .ok (.iconst 1, 1) := wtX5_at_0.2.2.2.2.2.2.2.2.2.2.2.2.1
theorem wtX5_at_24 : dwcj cX5_at 24 [(0, .goto 4, 3), (3, .iconst 0, 1), (4, .iconst 2, 1), (5, .invokevirtual 17, 3), (8, .ifCond .ne 20, 3), (11, .aload_n 0, 1), (12, .getfield 7, 3), (15, .iload_n 1, 1), (16, .laload, 1), (17, .iload_n 2, 1), (18, .invokestatic 25, 3), (21, .ifCond .eq 7, 3)] := dw_all (l := [167, 0, 4, 3, 5, 182, 0, 17, 154, 0, 20, 42, 180, 0, 7, 27, 47, 28, 184, 0, 25, 153, 0, 7]) (by decide +kernel)
theorem dX5_at_24 : decode cX5_at 24 = .ok (.goto 4, 3) := wtX5_at_24.1
theorem dX5_at_27 : decode cX5_at 27 = .ok (.iconst 0, 1) := wtX5_at_24.2.1
theorem dX5_at_28 : decode cX5_at 28 = .ok (.iconst 2, 1) := wtX5_at_24.2.2.1
theorem dX5_at_29 : decode cX5_at 29 = .ok (.invokevirtual 17, 3) := wtX5_at_24.2.2.2.1
theorem dX5_at_32 : decode cX5_at 32 = .ok (.ifCond .ne 20, 3) := wtX5_at_24.2.2.2.2.1
theorem dX5_at_35 : decode cX5_at 35 = .ok (.aload_n 0, 1) := wtX5_at_24.2.2.2.2.2.1
theorem dX5_at_36 : decode cX5_at 36 = .ok (.getfield 7, 3) := wtX5_at_24.2.2.2.2.2.2.1
theorem dX5_at_39 : decode cX5_at 39 = .ok (.iload_n 1, 1) := wtX5_at_24.2.2.2.2.2.2.2.1
theorem dX5_at_40 : decode cX5_at 40 = .ok (.laload, 1) := wtX5_at_24.2.2.2.2.2.2.2.2.1
theorem dX5_at_41 : decode cX5_at 41 = .ok (.iload_n 2, 1) := wtX5_at_24.2.2.2.2.2.2.2.2.2.1
theorem dX5_at_42 : decode cX5_at 42 = .ok (.invokestatic 25, 3) := wtX5_at_24.2.2.2.2.2.2.2.2.2.2.1
theorem dX5_at_45 : decode cX5_at 45 = .ok (.ifCond .eq 7, 3) := wtX5_at_24.2.2.2.2.2.2.2.2.2.2.2.1
theorem wtX5_at_48 : dwcj cX5_at 48 [(0, .iconst 1, 1), (1, .goto 4, 3), (4, .iconst 0, 1), (5, .ireturn, 1)] := dw_all (l := [4, 167, 0, 4, 3, 172]) (by decide +kernel)
theorem dX5_at_48 : decode cX5_at 48 = .ok (.iconst 1, 1) := wtX5_at_48.1
theorem dX5_at_49 : decode cX5_at 49 = .ok (.goto 4, 3) := wtX5_at_48.2.1
theorem dX5_at_52 : decode cX5_at 52 = .ok (.iconst 0, 1) := wtX5_at_48.2.2.1
theorem dX5_at_53 : decode cX5_at 53 = .ok (.ireturn, 1) := wtX5_at_48.2.2.2.1
theorem wtX5_digits_0 : dwcj cX5_digits 0 [(0, .aload_n 0, 1), (1, .iload_n 1, 1), (2, .invokestatic 67, 3), (5, .iconst 1, 1), (6, .invokevirtual 71, 3), (9, .ifCond .eq 7, 3), (12, .iconst 0, 1), (13, .goto 10, 3), (16, .aload_n 0, 1), (17, .getfield 7, 3), (20, .iload_n 1, 1), (21, .laload, 1), (22, .l2i, 1), (23, .ireturn, 1)] := dw_all (l := [42, 27, 184, 0, 67, 4, 182, 0, 71, 153, 0, 7, 3, 167, 0, 10, 42, 180, 0, 7, 27, 47, 136, 172]) (by decide +kernel)
theorem dX5_digits_0 : decode cX5_digits 0 = .ok (.aload_n 0, 1) := wtX5_digits_0.1
theorem dX5_digits_1 : decode cX5_digits 1 = .ok (.iload_n 1, 1) := wtX5_digits_0.2.1
theorem dX5_digits_2 : decode cX5_digits 2 = .ok (.invokestatic 67, 3) := wtX5_digits_0.2.2.1
theorem dX5_digits_5 : decode cX5_digits 5 = .ok (.iconst 1, 1) := wtX5_digits_0.2.2.2.1
theorem dX5_digits_6 : decode cX5_digits 6 = .ok (.invokevirtual 71, 3) := wtX5_digits_0.2.2.2.2.1
theorem dX5_digits_9 : decode cX5_digits 9 = .ok (.ifCond .eq 7, 3) := wtX5_digits_0.2.2.2.2.2.1
theorem dX5_digits_12 : decode cX5_digits 12 = .ok (.iconst 0, 1) := wtX5_digits_0.2.2.2.2.2.2.1
theorem dX5_digits_13 : decode cX5_digits 13 = .ok (.goto 10, 3) := wtX5_digits_0.2.2.2.2.2.2.2.1
theorem dX5_digits_16 : decode cX5_digits 16 = .ok (.aload_n 0, 1) := wtX5_digits_0.2.2.2.2.2.2.2.2.1
theorem dX5_digits_17 : decode cX5_digits 17 = .ok (.getfield 7, 3) := wtX5_digits_0.2.2.2.2.2.2.2.2.2.1
theorem dX5_digits_20 : decode cX5_digits 20 = .ok (.iload_n 1, 1) := wtX5_digits_0.2.2.2.2.2.2.2.2.2.2.1
theorem dX5_digits_21 : decode cX5_digits 21 = .ok (.laload, 1) := wtX5_digits_0.2.2.2.2.2.2.2.2.2.2.2.1
theorem dX5_digits_22 : decode cX5_digits 22 = .ok (.l2i, 1) := wtX5_digits_0.2.2.2.2.2.2.2.2.2.2.2.2.1
theorem dX5_digits_23 : decode cX5_digits 23 = .ok (.ireturn, 1) := wtX5_digits_0.2.2.2.2.2.2.2.2.2.2.2.2.2.1
theorem wtX5_text_0 : dwcj cX5_text 0 [(0, .aload_n 0, 1), (1, .iload_n 1, 1), (2, .invokestatic 67, 3), (5, .iconst 1, 1), (6, .invokevirtual 71, 3), (9, .ifCond .eq 6, 3), (12, .ldc 111, 2), (14, .areturn, 1), (15, .aload_n 0, 1), (16, .getfield 7, 3), (19, .iload_n 1, 1), (20, .laload, 1), (21, .lconst 0, 1), (22, .lcmp, 1), (23, .ifCond .ne 6, 3)] := dw_all (l := [42, 27, 184, 0, 67, 4, 182, 0, 71, 153, 0, 6, 18, 111, 176, 42, 180, 0, 7, 27, 47, 9, 148, 154, 0, 6]) (by decide +kernel)
theorem dX5_text_0 : decode cX5_text 0 = .ok (.aload_n 0, 1) := wtX5_text_0.1
theorem dX5_text_1 : decode cX5_text 1 = .ok (.iload_n 1, 1) := wtX5_text_0.2.1
theorem dX5_text_2 : decode cX5_text 2 = .ok (.invokestatic 67, 3) := wtX5_text_0.2.2.1
theorem dX5_text_5 : decode cX5_text 5 = .ok (.iconst 1, 1) := wtX5_text_0.2.2.2.1
theorem dX5_text_6 : decode cX5_text 6 = .ok (.invokevirtual 71, 3) := wtX5_text_0.2.2.2.2.1
theorem dX5_text_9 : decode cX5_text 9 = .ok (.ifCond .eq 6, 3) := wtX5_text_0.2.2.2.2.2.1
theorem dX5_text_12 : decode cX5_text 12 = .ok (.ldc 111, 2) := wtX5_text_0.2.2.2.2.2.2.1
theorem dX5_text_14 : decode cX5_text 14 = .ok (.areturn, 1) := wtX5_text_0.2.2.2.2.2.2.2.1
theorem dX5_text_15 : decode cX5_text 15 = .ok (.aload_n 0, 1) := wtX5_text_0.2.2.2.2.2.2.2.2.1
theorem dX5_text_16 : decode cX5_text 16 = .ok (.getfield 7, 3) := wtX5_text_0.2.2.2.2.2.2.2.2.2.1
theorem dX5_text_19 : decode cX5_text 19 = .ok (.iload_n 1, 1) := wtX5_text_0.2.2.2.2.2.2.2.2.2.2.1
theorem dX5_text_20 : decode cX5_text 20 = .ok (.laload, 1) := wtX5_text_0.2.2.2.2.2.2.2.2.2.2.2.1
theorem dX5_text_21 : decode cX5_text 21 = .ok (.lconst 0, 1) := wtX5_text_0.2.2.2.2.2.2.2.2.2.2.2.2.1
theorem dX5_text_22 : decode cX5_text 22 = .ok (.lcmp, 1) := wtX5_text_0.2.2.2.2.2.2.2.2.2.2.2.2.2.1
theorem dX5_text_23 : decode cX5_text 23 = .ok (.ifCond .ne 6, 3) := wtX5_text_0.2.2.2.2.2.2.2.2.2.2.2.2.2.2.1
theorem wtX5_text_26 : dwcj cX5_text 26 [(0, .ldc 113, 2), (2, .areturn, 1), (3, .new 115, 3), (6, .dup, 1), (7, .invokespecial 117, 3), (10, .astore_n 2, 1), (11, .bipush 32, 2), (13, .istore_n 3, 1), (14, .iload_n 3, 1), (15, .ifCond .lt 45, 3), (18, .aload_n 0, 1), (19, .getfield 7, 3), (22, .iload_n 1, 1), (23, .laload, 1)] := dw_all (l := [18, 113, 176, 187, 0, 115, 89, 183, 0, 117, 77, 16, 32, 62, 29, 155, 0, 45, 42, 180, 0, 7, 27, 47]) (by decide +kernel)
theorem dX5_text_26 : decode cX5_text 26 = .ok (.ldc 113, 2) := wtX5_text_26.1
theorem dX5_text_28 : decode cX5_text 28 = .ok (.areturn, 1) := wtX5_text_26.2.1
theorem dX5_text_29 : decode cX5_text 29 = .ok (.new 115, 3) := wtX5_text_26.2.2.1
theorem dX5_text_32 : decode cX5_text 32 = .ok (.dup, 1) := wtX5_text_26.2.2.2.1
theorem dX5_text_33 : decode cX5_text 33 = .ok (.invokespecial 117, 3) := wtX5_text_26.2.2.2.2.1
theorem dX5_text_36 : decode cX5_text 36 = .ok (.astore_n 2, 1) := wtX5_text_26.2.2.2.2.2.1
theorem dX5_text_37 : decode cX5_text 37 = .ok (.bipush 32, 2) := wtX5_text_26.2.2.2.2.2.2.1
theorem dX5_text_39 : decode cX5_text 39 = .ok (.istore_n 3, 1) := wtX5_text_26.2.2.2.2.2.2.2.1
theorem dX5_text_40 : decode cX5_text 40 = .ok (.iload_n 3, 1) := wtX5_text_26.2.2.2.2.2.2.2.2.1
theorem dX5_text_41 : decode cX5_text 41 = .ok (.ifCond .lt 45, 3) := wtX5_text_26.2.2.2.2.2.2.2.2.2.1
theorem dX5_text_44 : decode cX5_text 44 = .ok (.aload_n 0, 1) := wtX5_text_26.2.2.2.2.2.2.2.2.2.2.1
theorem dX5_text_45 : decode cX5_text 45 = .ok (.getfield 7, 3) := wtX5_text_26.2.2.2.2.2.2.2.2.2.2.2.1
theorem dX5_text_48 : decode cX5_text 48 = .ok (.iload_n 1, 1) := wtX5_text_26.2.2.2.2.2.2.2.2.2.2.2.2.1
theorem dX5_text_49 : decode cX5_text 49 = .ok (.laload, 1) := wtX5_text_26.2.2.2.2.2.2.2.2.2.2.2.2.2.1
theorem wtX5_text_50 : dwcj cX5_text 50 [(0, .iload_n 3, 1), (1, .invokestatic 25, 3), (4, .ifCond .ne 6, 3), (7, .goto 23, 3), (10, .aload_n 2, 1), (11, .invokevirtual 118, 3), (14, .ifCond .le 10, 3), (17, .aload_n 2, 1), (18, .bipush 32, 2), (20, .invokevirtual 121, 3), (23, .pop, 1)] := dw_all (l := [29, 184, 0, 25, 154, 0, 6, 167, 0, 23, 44, 182, 0, 118, 158, 0, 10, 44, 16, 32, 182, 0, 121, 87]) (by decide +kernel)
theorem dX5_text_50 : decode cX5_text 50 = .ok (.iload_n 3, 1) := wtX5_text_50.1
theorem dX5_text_51 : decode cX5_text 51 = .ok (.invokestatic 25, 3) := wtX5_text_50.2.1
theorem dX5_text_54 : decode cX5_text 54 = .ok (.ifCond .ne 6, 3) := wtX5_text_50.2.2.1
theorem dX5_text_57 : decode cX5_text 57 = .ok (.goto 23, 3) := wtX5_text_50.2.2.2.1
theorem dX5_text_60 : decode cX5_text 60 = .ok (.aload_n 2, 1) := wtX5_text_50.2.2.2.2.1
theorem dX5_text_61 : decode cX5_text 61 = .ok (.invokevirtual 118, 3) := wtX5_text_50.2.2.2.2.2.1
theorem dX5_text_64 : decode cX5_text 64 = .ok (.ifCond .le 10, 3) := wtX5_text_50.2.2.2.2.2.2.1
theorem dX5_text_67 : decode cX5_text 67 = .ok (.aload_n 2, 1) := wtX5_text_50.2.2.2.2.2.2.2.1
theorem dX5_text_68 : decode cX5_text 68 = .ok (.bipush 32, 2) := wtX5_text_50.2.2.2.2.2.2.2.2.1
theorem dX5_text_70 : decode cX5_text 70 = .ok (.invokevirtual 121, 3) := wtX5_text_50.2.2.2.2.2.2.2.2.2.1
theorem dX5_text_73 : decode cX5_text 73 = .ok (.pop, 1) := wtX5_text_50.2.2.2.2.2.2.2.2.2.2.1
theorem wtX5_text_74 : dwcj cX5_text 74 [(0, .aload_n 2, 1), (1, .iload_n 3, 1), (2, .invokevirtual 125, 3), (5, .pop, 1), (6, .iinc 3 (-1), 3), (9, .goto (-43), 3), (12, .aload_n 2, 1), (13, .invokevirtual 128, 3), (16, .areturn, 1)] := dw_all (l := [44, 29, 182, 0, 125, 87, 132, 3, 255, 167, 255, 213, 44, 182, 0, 128, 176]) (by decide +kernel)
theorem dX5_text_74 : decode cX5_text 74 = .ok (.aload_n 2, 1) := wtX5_text_74.1
theorem dX5_text_75 : decode cX5_text 75 = .ok (.iload_n 3, 1) := wtX5_text_74.2.1
theorem dX5_text_76 : decode cX5_text 76 = .ok (.invokevirtual 125, 3) := wtX5_text_74.2.2.1
theorem dX5_text_79 : decode cX5_text 79 = .ok (.pop, 1) := wtX5_text_74.2.2.2.1
theorem dX5_text_80 : decode cX5_text 80 = .ok (.iinc 3 (-1), 3) := wtX5_text_74.2.2.2.2.1
theorem dX5_text_83 : decode cX5_text 83 = .ok (.goto (-43), 3) := wtX5_text_74.2.2.2.2.2.1
theorem dX5_text_86 : decode cX5_text 86 = .ok (.aload_n 2, 1) := wtX5_text_74.2.2.2.2.2.2.1
theorem dX5_text_87 : decode cX5_text 87 = .ok (.invokevirtual 128, 3) := wtX5_text_74.2.2.2.2.2.2.2.1
theorem dX5_text_90 : decode cX5_text 90 = .ok (.areturn, 1) := wtX5_text_74.2.2.2.2.2.2.2.2.1
theorem wtX5_code_0 : dwcj cX5_code 0 [(0, .aload_n 0, 1), (1, .iload_n 1, 1), (2, .invokestatic 67, 3), (5, .iconst 1, 1), (6, .invokevirtual 71, 3), (9, .ifCond .ne 26, 3), (12, .aload_n 0, 1), (13, .iload_n 2, 1), (14, .iconst 2, 1), (15, .bipush 36, 2), (17, .invokestatic 21, 3), (20, .ifCond .ne 7, 3), (23, .iconst 1, 1)] := dw_all (l := [42, 27, 184, 0, 67, 4, 182, 0, 71, 154, 0, 26, 42, 28, 5, 16, 36, 184, 0, 21, 154, 0, 7, 4]) (by decide +kernel)
theorem dX5_code_0 : decode cX5_code 0 = .ok (.aload_n 0, 1) := wtX5_code_0.1
theorem dX5_code_1 : decode cX5_code 1 = .ok (.iload_n 1, 1) := wtX5_code_0.2.1
theorem dX5_code_2 : decode cX5_code 2 = .ok (.invokestatic 67, 3) := wtX5_code_0.2.2.1
theorem dX5_code_5 : decode cX5_code 5 = .ok (.iconst 1, 1) := wtX5_code_0.2.2.2.1
theorem dX5_code_6 : decode cX5_code 6 = .ok (.invokevirtual 71, 3) := wtX5_code_0.2.2.2.2.1
theorem dX5_code_9 : decode cX5_code 9 = .ok (.ifCond .ne 26, 3) := wtX5_code_0.2.2.2.2.2.1
theorem dX5_code_12 : decode cX5_code 12 = .ok (.aload_n 0, 1) := wtX5_code_0.2.2.2.2.2.2.1
theorem dX5_code_13 : decode cX5_code 13 = .ok (.iload_n 2, 1) := wtX5_code_0.2.2.2.2.2.2.2.1
theorem dX5_code_14 : decode cX5_code 14 = .ok (.iconst 2, 1) := wtX5_code_0.2.2.2.2.2.2.2.2.1
theorem dX5_code_15 : decode cX5_code 15 = .ok (.bipush 36, 2) := wtX5_code_0.2.2.2.2.2.2.2.2.2.1
theorem dX5_code_17 : decode cX5_code 17 = .ok (.invokestatic 21, 3) := wtX5_code_0.2.2.2.2.2.2.2.2.2.2.1
theorem dX5_code_20 : decode cX5_code 20 = .ok (.ifCond .ne 7, 3) := wtX5_code_0.2.2.2.2.2.2.2.2.2.2.2.1
theorem dX5_code_23 : decode cX5_code 23 = .ok (.iconst 1, 1) := wtX5_code_0.2.2.2.2.2.2.2.2.2.2.2.2.1
theorem wtX5_code_24 : dwcj cX5_code 24 [(0, .goto 4, 3), (3, .iconst 0, 1), (4, .iconst 2, 1), (5, .invokevirtual 17, 3), (8, .ifCond .eq 6, 3), (11, .ldc 111, 2), (13, .areturn, 1), (14, .lconst 1, 1), (15, .lstore_n 3, 1), (16, .aload_n 0, 1), (17, .getfield 7, 3), (20, .iload_n 1, 1), (21, .laload, 1), (22, .lload_n 3, 1), (23, .ldiv, 1)] := dw_all (l := [167, 0, 4, 3, 5, 182, 0, 17, 153, 0, 6, 18, 111, 176, 10, 66, 42, 180, 0, 7, 27, 47, 33, 109]) (by decide +kernel)
theorem dX5_code_24 : decode cX5_code 24 = .ok (.goto 4, 3) := wtX5_code_24.1
theorem dX5_code_27 : decode cX5_code 27 = .ok (.iconst 0, 1) := wtX5_code_24.2.1
theorem dX5_code_28 : decode cX5_code 28 = .ok (.iconst 2, 1) := wtX5_code_24.2.2.1
theorem dX5_code_29 : decode cX5_code 29 = .ok (.invokevirtual 17, 3) := wtX5_code_24.2.2.2.1
theorem dX5_code_32 : decode cX5_code 32 = .ok (.ifCond .eq 6, 3) := wtX5_code_24.2.2.2.2.1
theorem dX5_code_35 : decode cX5_code 35 = .ok (.ldc 111, 2) := wtX5_code_24.2.2.2.2.2.1
theorem dX5_code_37 : decode cX5_code 37 = .ok (.areturn, 1) := wtX5_code_24.2.2.2.2.2.2.1
theorem dX5_code_38 : decode cX5_code 38 = .ok (.lconst 1, 1) := wtX5_code_24.2.2.2.2.2.2.2.1
theorem dX5_code_39 : decode cX5_code 39 = .ok (.lstore_n 3, 1) := wtX5_code_24.2.2.2.2.2.2.2.2.1
theorem dX5_code_40 : decode cX5_code 40 = .ok (.aload_n 0, 1) := wtX5_code_24.2.2.2.2.2.2.2.2.2.1
theorem dX5_code_41 : decode cX5_code 41 = .ok (.getfield 7, 3) := wtX5_code_24.2.2.2.2.2.2.2.2.2.2.1
theorem dX5_code_44 : decode cX5_code 44 = .ok (.iload_n 1, 1) := wtX5_code_24.2.2.2.2.2.2.2.2.2.2.2.1
theorem dX5_code_45 : decode cX5_code 45 = .ok (.laload, 1) := wtX5_code_24.2.2.2.2.2.2.2.2.2.2.2.2.1
theorem dX5_code_46 : decode cX5_code 46 = .ok (.lload_n 3, 1) := wtX5_code_24.2.2.2.2.2.2.2.2.2.2.2.2.2.1
theorem dX5_code_47 : decode cX5_code 47 = .ok (.ldiv, 1) := wtX5_code_24.2.2.2.2.2.2.2.2.2.2.2.2.2.2.1
theorem wtX5_code_48 : dwcj cX5_code 48 [(0, .iload_n 2, 1), (1, .i2l, 1), (2, .lcmp, 1), (3, .ifCond .lt 11, 3), (6, .lload_n 3, 1), (7, .iload_n 2, 1), (8, .i2l, 1), (9, .lmul, 1), (10, .lstore_n 3, 1), (11, .goto (-19), 3), (14, .new 115, 3), (17, .dup, 1), (18, .invokespecial 117, 3), (21, .astore 5, 2), (23, .lload_n 3, 1)] := dw_all (l := [28, 133, 148, 155, 0, 11, 33, 28, 133, 105, 66, 167, 255, 237, 187, 0, 115, 89, 183, 0, 117, 58, 5, 33]) (by decide +kernel)
theorem dX5_code_48 : decode cX5_code 48 = .ok (.iload_n 2, 1) := wtX5_code_48.1
theorem dX5_code_49 : decode cX5_code 49 = .ok (.i2l, 1) := wtX5_code_48.2.1
theorem dX5_code_50 : decode cX5_code 50 = .ok (.lcmp, 1) := wtX5_code_48.2.2.1
theorem dX5_code_51 : decode cX5_code 51 = .ok (.ifCond .lt 11, 3) := wtX5_code_48.2.2.2.1
theorem dX5_code_54 : decode cX5_code 54 = .ok (.lload_n 3, 1) := wtX5_code_48.2.2.2.2.1
theorem dX5_code_55 : decode cX5_code 55 = .ok (.iload_n 2, 1) := wtX5_code_48.2.2.2.2.2.1
theorem dX5_code_56 : decode cX5_code 56 = .ok (.i2l, 1) := wtX5_code_48.2.2.2.2.2.2.1
theorem dX5_code_57 : decode cX5_code 57 = .ok (.lmul, 1) := wtX5_code_48.2.2.2.2.2.2.2.1
theorem dX5_code_58 : decode cX5_code 58 = .ok (.lstore_n 3, 1) := wtX5_code_48.2.2.2.2.2.2.2.2.1
theorem dX5_code_59 : decode cX5_code 59 = .ok (.goto (-19), 3) := wtX5_code_48.2.2.2.2.2.2.2.2.2.1
theorem dX5_code_62 : decode cX5_code 62 = .ok (.new 115, 3) := wtX5_code_48.2.2.2.2.2.2.2.2.2.2.1
theorem dX5_code_65 : decode cX5_code 65 = .ok (.dup, 1) := wtX5_code_48.2.2.2.2.2.2.2.2.2.2.2.1
theorem dX5_code_66 : decode cX5_code 66 = .ok (.invokespecial 117, 3) := wtX5_code_48.2.2.2.2.2.2.2.2.2.2.2.2.1
theorem dX5_code_69 : decode cX5_code 69 = .ok (.astore 5, 2) := wtX5_code_48.2.2.2.2.2.2.2.2.2.2.2.2.2.1
theorem dX5_code_71 : decode cX5_code 71 = .ok (.lload_n 3, 1) := wtX5_code_48.2.2.2.2.2.2.2.2.2.2.2.2.2.2.1
theorem wtX5_code_72 : dwcj cX5_code 72 [(0, .lconst 0, 1), (1, .lcmp, 1), (2, .ifCond .le 34, 3), (5, .aload 5, 2), (7, .ldc 132, 2), (9, .aload_n 0, 1), (10, .getfield 7, 3), (13, .iload_n 1, 1), (14, .laload, 1), (15, .lload_n 3, 1), (16, .ldiv, 1), (17, .iload_n 2, 1), (18, .i2l, 1), (19, .lrem, 1), (20, .l2i, 1), (21, .invokevirtual 134, 3)] := dw_all (l := [9, 148, 158, 0, 34, 25, 5, 18, 132, 42, 180, 0, 7, 27, 47, 33, 109, 28, 133, 113, 136, 182, 0, 134]) (by decide +kernel)
theorem dX5_code_72 : decode cX5_code 72 = .ok (.lconst 0, 1) := wtX5_code_72.1
theorem dX5_code_73 : decode cX5_code 73 = .ok (.lcmp, 1) := wtX5_code_72.2.1
theorem dX5_code_74 : decode cX5_code 74 = .ok (.ifCond .le 34, 3) := wtX5_code_72.2.2.1
theorem dX5_code_77 : decode cX5_code 77 = .ok (.aload 5, 2) := wtX5_code_72.2.2.2.1
theorem dX5_code_79 : decode cX5_code 79 = .ok (.ldc 132, 2) := wtX5_code_72.2.2.2.2.1
theorem dX5_code_81 : decode cX5_code 81 = .ok (.aload_n 0, 1) := wtX5_code_72.2.2.2.2.2.1
theorem dX5_code_82 : decode cX5_code 82 = .ok (.getfield 7, 3) := wtX5_code_72.2.2.2.2.2.2.1
theorem dX5_code_85 : decode cX5_code 85 = .ok (.iload_n 1, 1) := wtX5_code_72.2.2.2.2.2.2.2.1
theorem dX5_code_86 : decode cX5_code 86 = .ok (.laload, 1) := wtX5_code_72.2.2.2.2.2.2.2.2.1
theorem dX5_code_87 : decode cX5_code 87 = .ok (.lload_n 3, 1) := wtX5_code_72.2.2.2.2.2.2.2.2.2.1
theorem dX5_code_88 : decode cX5_code 88 = .ok (.ldiv, 1) := wtX5_code_72.2.2.2.2.2.2.2.2.2.2.1
theorem dX5_code_89 : decode cX5_code 89 = .ok (.iload_n 2, 1) := wtX5_code_72.2.2.2.2.2.2.2.2.2.2.2.1
theorem dX5_code_90 : decode cX5_code 90 = .ok (.i2l, 1) := wtX5_code_72.2.2.2.2.2.2.2.2.2.2.2.2.1
theorem dX5_code_91 : decode cX5_code 91 = .ok (.lrem, 1) := wtX5_code_72.2.2.2.2.2.2.2.2.2.2.2.2.2.1
theorem dX5_code_92 : decode cX5_code 92 = .ok (.l2i, 1) := wtX5_code_72.2.2.2.2.2.2.2.2.2.2.2.2.2.2.1
theorem dX5_code_93 : decode cX5_code 93 = .ok (.invokevirtual 134, 3) := wtX5_code_72.2.2.2.2.2.2.2.2.2.2.2.2.2.2.2.1
theorem wtX5_code_96 : dwcj cX5_code 96 [(0, .invokevirtual 121, 3), (3, .pop, 1), (4, .lload_n 3, 1), (5, .iload_n 2, 1), (6, .i2l, 1), (7, .ldiv, 1), (8, .lstore_n 3, 1), (9, .goto (-34), 3), (12, .aload 5, 2), (14, .invokevirtual 128, 3), (17, .areturn, 1)] := dw_all (l := [182, 0, 121, 87, 33, 28, 133, 109, 66, 167, 255, 222, 25, 5, 182, 0, 128, 176]) (by decide +kernel)
theorem dX5_code_96 : decode cX5_code 96 = .ok (.invokevirtual 121, 3) := wtX5_code_96.1
theorem dX5_code_99 : decode cX5_code 99 = .ok (.pop, 1) := wtX5_code_96.2.1
theorem dX5_code_100 : decode cX5_code 100 = .ok (.lload_n 3, 1) := wtX5_code_96.2.2.1
theorem dX5_code_101 : decode cX5_code 101 = .ok (.iload_n 2, 1) := wtX5_code_96.2.2.2.1
theorem dX5_code_102 : decode cX5_code 102 = .ok (.i2l, 1) := wtX5_code_96.2.2.2.2.1
theorem dX5_code_103 : decode cX5_code 103 = .ok (.ldiv, 1) := wtX5_code_96.2.2.2.2.2.1
theorem dX5_code_104 : decode cX5_code 104 = .ok (.lstore_n 3, 1) := wtX5_code_96.2.2.2.2.2.2.1
theorem dX5_code_105 : decode cX5_code 105 = .ok (.goto (-34), 3) := wtX5_code_96.2.2.2.2.2.2.2.1
theorem dX5_code_108 : decode cX5_code 108 = .ok (.aload 5, 2) := wtX5_code_96.2.2.2.2.2.2.2.2.1
theorem dX5_code_110 : decode cX5_code 110 = .ok (.invokevirtual 128, 3) := wtX5_code_96.2.2.2.2.2.2.2.2.2.1
theorem dX5_code_113 : decode cX5_code 113 = .ok (.areturn, 1) := wtX5_code_96.2.2.2.2.2.2.2.2.2.2.1
theorem wtX5_side_0 : dwcj cX5_side 0 [(0, .aload_n 0, 1), (1, .getfield 7, 3), (4, .iload_n 1, 1), (5, .laload, 1), (6, .aload_n 0, 1), (7, .getfield 7, 3), (10, .iload_n 2, 1), (11, .laload, 1), (12, .lcmp, 1), (13, .ifCond .le 7, 3), (16, .iconst 1, 1), (17, .goto 4, 3), (20, .iconst 0, 1), (21, .invokestatic 29, 3)] := dw_all (l := [42, 180, 0, 7, 27, 47, 42, 180, 0, 7, 28, 47, 148, 158, 0, 7, 4, 167, 0, 4, 3, 184, 0, 29]) (by decide +kernel)
theorem dX5_side_0 : decode cX5_side 0 = .ok (.aload_n 0, 1) := wtX5_side_0.1
theorem dX5_side_1 : decode cX5_side 1 = .ok (.getfield 7, 3) := wtX5_side_0.2.1
theorem dX5_side_4 : decode cX5_side 4 = .ok (.iload_n 1, 1) := wtX5_side_0.2.2.1
theorem dX5_side_5 : decode cX5_side 5 = .ok (.laload, 1) := wtX5_side_0.2.2.2.1
theorem dX5_side_6 : decode cX5_side 6 = .ok (.aload_n 0, 1) := wtX5_side_0.2.2.2.2.1
theorem dX5_side_7 : decode cX5_side 7 = .ok (.getfield 7, 3) := wtX5_side_0.2.2.2.2.2.1
theorem dX5_side_10 : decode cX5_side 10 = .ok (.iload_n 2, 1) := wtX5_side_0.2.2.2.2.2.2.1
theorem dX5_side_11 : decode cX5_side 11 = .ok (.laload, 1) := wtX5_side_0.2.2.2.2.2.2.2.1
theorem dX5_side_12 : decode cX5_side 12 = .ok (.lcmp, 1) := wtX5_side_0.2.2.2.2.2.2.2.2.1
theorem dX5_side_13 : decode cX5_side 13 = .ok (.ifCond .le 7, 3) := wtX5_side_0.2.2.2.2.2.2.2.2.2.1
theorem dX5_side_16 : decode cX5_side 16 = .ok (.iconst 1, 1) := wtX5_side_0.2.2.2.2.2.2.2.2.2.2.1
theorem dX5_side_17 : decode cX5_side 17 = .ok (.goto 4, 3) := wtX5_side_0.2.2.2.2.2.2.2.2.2.2.2.1
theorem dX5_side_20 : decode cX5_side 20 = .ok (.iconst 0, 1) := wtX5_side_0.2.2.2.2.2.2.2.2.2.2.2.2.1
theorem dX5_side_21 : decode cX5_side 21 = .ok (.invokestatic 29, 3) := wtX5_side_0.2.2.2.2.2.2.2.2.2.2.2.2.2.1
theorem wtX5_side_24 : dwcj cX5_side 24 [(0, .aload_n 0, 1), (1, .getfield 7, 3), (4, .iload_n 1, 1), (5, .laload, 1), (6, .aload_n 0, 1), (7, .getfield 7, 3), (10, .iload_n 2, 1), (11, .laload, 1), (12, .lcmp, 1), (13, .ifCond .ge 7, 3), (16, .iconst 1, 1), (17, .goto 4, 3), (20, .iconst 0, 1), (21, .invokestatic 29, 3)] := dw_all (l := [42, 180, 0, 7, 27, 47, 42, 180, 0, 7, 28, 47, 148, 156, 0, 7, 4, 167, 0, 4, 3, 184, 0, 29]) (by decide +kernel)
theorem dX5_side_24 : decode cX5_side 24 = .ok (.aload_n 0, 1) := wtX5_side_24.1
theorem dX5_side_25 : decode cX5_side 25 = .ok (.getfield 7, 3) := wtX5_side_24.2.1
theorem dX5_side_28 : decode cX5_side 28 = .ok (.iload_n 1, 1) := wtX5_side_24.2.2.1
theorem dX5_side_29 : decode cX5_side 29 = .ok (.laload, 1) := wtX5_side_24.2.2.2.1
theorem dX5_side_30 : decode cX5_side 30 = .ok (.aload_n 0, 1) := wtX5_side_24.2.2.2.2.1
theorem dX5_side_31 : decode cX5_side 31 = .ok (.getfield 7, 3) := wtX5_side_24.2.2.2.2.2.1
theorem dX5_side_34 : decode cX5_side 34 = .ok (.iload_n 2, 1) := wtX5_side_24.2.2.2.2.2.2.1
theorem dX5_side_35 : decode cX5_side 35 = .ok (.laload, 1) := wtX5_side_24.2.2.2.2.2.2.2.1
theorem dX5_side_36 : decode cX5_side 36 = .ok (.lcmp, 1) := wtX5_side_24.2.2.2.2.2.2.2.2.1
theorem dX5_side_37 : decode cX5_side 37 = .ok (.ifCond .ge 7, 3) := wtX5_side_24.2.2.2.2.2.2.2.2.2.1
theorem dX5_side_40 : decode cX5_side 40 = .ok (.iconst 1, 1) := wtX5_side_24.2.2.2.2.2.2.2.2.2.2.1
theorem dX5_side_41 : decode cX5_side 41 = .ok (.goto 4, 3) := wtX5_side_24.2.2.2.2.2.2.2.2.2.2.2.1
theorem dX5_side_44 : decode cX5_side 44 = .ok (.iconst 0, 1) := wtX5_side_24.2.2.2.2.2.2.2.2.2.2.2.2.1
theorem dX5_side_45 : decode cX5_side 45 = .ok (.invokestatic 29, 3) := wtX5_side_24.2.2.2.2.2.2.2.2.2.2.2.2.2.1
theorem wtX5_side_48 : dwcj cX5_side 48 [(0, .isub, 1), (1, .ireturn, 1)] := dw_all (l := [100, 172]) (by decide +kernel)
theorem dX5_side_48 : decode cX5_side 48 = .ok (.isub, 1) := wtX5_side_48.1
theorem dX5_side_49 : decode cX5_side 49 = .ok (.ireturn, 1) := wtX5_side_48.2.1
theorem wtX5_order_0 : dwcj cX5_order 0 [(0, .aload_n 0, 1), (1, .iload_n 1, 1), (2, .invokestatic 67, 3), (5, .ifCond .ne 10, 3), (8, .iload_n 2, 1), (9, .invokestatic 67, 3), (12, .ifCond .eq 7, 3), (15, .iconst 1, 1), (16, .goto 4, 3), (19, .iconst 0, 1), (20, .iconst 1, 1), (21, .invokevirtual 71, 3)] := dw_all (l := [42, 27, 184, 0, 67, 154, 0, 10, 28, 184, 0, 67, 153, 0, 7, 4, 167, 0, 4, 3, 4, 182, 0, 71]) (by decide +kernel)
theorem dX5_order_0 : decode cX5_order 0 = .ok (.aload_n 0, 1) := wtX5_order_0.1
theorem dX5_order_1 : decode cX5_order 1 = .ok (.iload_n 1, 1) := wtX5_order_0.2.1
theorem dX5_order_2 : decode cX5_order 2 = .ok (.invokestatic 67, 3) := wtX5_order_0.2.2.1
theorem dX5_order_5 : decode cX5_order 5 = .ok (.ifCond .ne 10, 3) := wtX5_order_0.2.2.2.1
theorem dX5_order_8 : decode cX5_order 8 = .ok (.iload_n 2, 1) := wtX5_order_0.2.2.2.2.1
theorem dX5_order_9 : decode cX5_order 9 = .ok (.invokestatic 67, 3) := wtX5_order_0.2.2.2.2.2.1
theorem dX5_order_12 : decode cX5_order 12 = .ok (.ifCond .eq 7, 3) := wtX5_order_0.2.2.2.2.2.2.1
theorem dX5_order_15 : decode cX5_order 15 = .ok (.iconst 1, 1) := wtX5_order_0.2.2.2.2.2.2.2.1
theorem dX5_order_16 : decode cX5_order 16 = .ok (.goto 4, 3) := wtX5_order_0.2.2.2.2.2.2.2.2.1
theorem dX5_order_19 : decode cX5_order 19 = .ok (.iconst 0, 1) := wtX5_order_0.2.2.2.2.2.2.2.2.2.1
theorem dX5_order_20 : decode cX5_order 20 = .ok (.iconst 1, 1) := wtX5_order_0.2.2.2.2.2.2.2.2.2.2.1
theorem dX5_order_21 : decode cX5_order 21 = .ok (.invokevirtual 71, 3) := wtX5_order_0.2.2.2.2.2.2.2.2.2.2.2.1
theorem wtX5_order_24 : dwcj cX5_order 24 [(0, .ifCond .eq 7, 3), (3, .iconst 0, 1), (4, .goto 9, 3), (7, .aload_n 0, 1), (8, .iload_n 1, 1), (9, .iload_n 2, 1), (10, .invokevirtual 140, 3), (13, .ireturn, 1)] := dw_all (l := [153, 0, 7, 3, 167, 0, 9, 42, 27, 28, 182, 0, 140, 172]) (by decide +kernel)
theorem dX5_order_24 : decode cX5_order 24 = .ok (.ifCond .eq 7, 3) := wtX5_order_24.1
theorem dX5_order_27 : decode cX5_order 27 = .ok (.iconst 0, 1) := wtX5_order_24.2.1
theorem dX5_order_28 : decode cX5_order 28 = .ok (.goto 9, 3) := wtX5_order_24.2.2.1
theorem dX5_order_31 : decode cX5_order 31 = .ok (.aload_n 0, 1) := wtX5_order_24.2.2.2.1
theorem dX5_order_32 : decode cX5_order 32 = .ok (.iload_n 1, 1) := wtX5_order_24.2.2.2.2.1
theorem dX5_order_33 : decode cX5_order 33 = .ok (.iload_n 2, 1) := wtX5_order_24.2.2.2.2.2.1
theorem dX5_order_34 : decode cX5_order 34 = .ok (.invokevirtual 140, 3) := wtX5_order_24.2.2.2.2.2.2.1
theorem dX5_order_37 : decode cX5_order 37 = .ok (.ireturn, 1) := wtX5_order_24.2.2.2.2.2.2.2.1
theorem wtX5_isSame_0 : dwcj cX5_isSame 0 [(0, .aload_n 0, 1), (1, .iload_n 1, 1), (2, .invokestatic 67, 3), (5, .ifCond .ne 10, 3), (8, .iload_n 2, 1), (9, .invokestatic 67, 3), (12, .ifCond .eq 7, 3), (15, .iconst 1, 1), (16, .goto 4, 3), (19, .iconst 0, 1), (20, .iconst 1, 1), (21, .invokevirtual 71, 3)] := dw_all (l := [42, 27, 184, 0, 67, 154, 0, 10, 28, 184, 0, 67, 153, 0, 7, 4, 167, 0, 4, 3, 4, 182, 0, 71]) (by decide +kernel)
theorem dX5_isSame_0 : decode cX5_isSame 0 = .ok (.aload_n 0, 1) := wtX5_isSame_0.1
theorem dX5_isSame_1 : decode cX5_isSame 1 = .ok (.iload_n 1, 1) := wtX5_isSame_0.2.1
theorem dX5_isSame_2 : decode cX5_isSame 2 = .ok (.invokestatic 67, 3) := wtX5_isSame_0.2.2.1
theorem dX5_isSame_5 : decode cX5_isSame 5 = .ok (.ifCond .ne 10, 3) := wtX5_isSame_0.2.2.2.1
theorem dX5_isSame_8 : decode cX5_isSame 8 = .ok (.iload_n 2, 1) := wtX5_isSame_0.2.2.2.2.1
theorem dX5_isSame_9 : decode cX5_isSame 9 = .ok (.invokestatic 67, 3) := wtX5_isSame_0.2.2.2.2.2.1
theorem dX5_isSame_12 : decode cX5_isSame 12 = .ok (.ifCond .eq 7, 3) := wtX5_isSame_0.2.2.2.2.2.2.1
theorem dX5_isSame_15 : decode cX5_isSame 15 = .ok (.iconst 1, 1) := wtX5_isSame_0.2.2.2.2.2.2.2.1
theorem dX5_isSame_16 : decode cX5_isSame 16 = .ok (.goto 4, 3) := wtX5_isSame_0.2.2.2.2.2.2.2.2.1
theorem dX5_isSame_19 : decode cX5_isSame 19 = .ok (.iconst 0, 1) := wtX5_isSame_0.2.2.2.2.2.2.2.2.2.1
theorem dX5_isSame_20 : decode cX5_isSame 20 = .ok (.iconst 1, 1) := wtX5_isSame_0.2.2.2.2.2.2.2.2.2.2.1
theorem dX5_isSame_21 : decode cX5_isSame 21 = .ok (.invokevirtual 71, 3) := wtX5_isSame_0.2.2.2.2.2.2.2.2.2.2.2.1
theorem wtX5_isSame_24 : dwcj cX5_isSame 24 [(0, .ifCond .ne 23, 3), (3, .aload_n 0, 1), (4, .getfield 7, 3), (7, .iload_n 1, 1), (8, .laload, 1), (9, .aload_n 0, 1), (10, .getfield 7, 3), (13, .iload_n 2, 1), (14, .laload, 1), (15, .lcmp, 1), (16, .ifCond .ne 7, 3), (19, .iconst 1, 1), (20, .goto 4, 3), (23, .iconst 0, 1)] := dw_all (l := [154, 0, 23, 42, 180, 0, 7, 27, 47, 42, 180, 0, 7, 28, 47, 148, 154, 0, 7, 4, 167, 0, 4, 3]) (by decide +kernel)
theorem dX5_isSame_24 : decode cX5_isSame 24 = .ok (.ifCond .ne 23, 3) := wtX5_isSame_24.1
theorem dX5_isSame_27 : decode cX5_isSame 27 = .ok (.aload_n 0, 1) := wtX5_isSame_24.2.1
theorem dX5_isSame_28 : decode cX5_isSame 28 = .ok (.getfield 7, 3) := wtX5_isSame_24.2.2.1
theorem dX5_isSame_31 : decode cX5_isSame 31 = .ok (.iload_n 1, 1) := wtX5_isSame_24.2.2.2.1
theorem dX5_isSame_32 : decode cX5_isSame 32 = .ok (.laload, 1) := wtX5_isSame_24.2.2.2.2.1
theorem dX5_isSame_33 : decode cX5_isSame 33 = .ok (.aload_n 0, 1) := wtX5_isSame_24.2.2.2.2.2.1
theorem dX5_isSame_34 : decode cX5_isSame 34 = .ok (.getfield 7, 3) := wtX5_isSame_24.2.2.2.2.2.2.1
theorem dX5_isSame_37 : decode cX5_isSame 37 = .ok (.iload_n 2, 1) := wtX5_isSame_24.2.2.2.2.2.2.2.1
theorem dX5_isSame_38 : decode cX5_isSame 38 = .ok (.laload, 1) := wtX5_isSame_24.2.2.2.2.2.2.2.2.1
theorem dX5_isSame_39 : decode cX5_isSame 39 = .ok (.lcmp, 1) := wtX5_isSame_24.2.2.2.2.2.2.2.2.2.1
theorem dX5_isSame_40 : decode cX5_isSame 40 = .ok (.ifCond .ne 7, 3) := wtX5_isSame_24.2.2.2.2.2.2.2.2.2.2.1
theorem dX5_isSame_43 : decode cX5_isSame 43 = .ok (.iconst 1, 1) := wtX5_isSame_24.2.2.2.2.2.2.2.2.2.2.2.1
theorem dX5_isSame_44 : decode cX5_isSame 44 = .ok (.goto 4, 3) := wtX5_isSame_24.2.2.2.2.2.2.2.2.2.2.2.2.1
theorem dX5_isSame_47 : decode cX5_isSame 47 = .ok (.iconst 0, 1) := wtX5_isSame_24.2.2.2.2.2.2.2.2.2.2.2.2.2.1
theorem wtX5_isSame_48 : dwcj cX5_isSame 48 [(0, .ireturn, 1)] := dw_all (l := [172]) (by decide +kernel)
theorem dX5_isSame_48 : decode cX5_isSame 48 = .ok (.ireturn, 1) := wtX5_isSame_48.1
theorem wtX5_value_0 : dwcj cX5_value 0 [(0, .aload_n 0, 1), (1, .iload_n 1, 1), (2, .invokestatic 67, 3), (5, .iconst 1, 1), (6, .invokevirtual 71, 3), (9, .ifCond .eq 7, 3), (12, .iconst 0, 1), (13, .goto 34, 3), (16, .iload_n 2, 1), (17, .ifCond .eq 17, 3), (20, .aload_n 0, 1), (21, .getfield 7, 3)] := dw_all (l := [42, 27, 184, 0, 67, 4, 182, 0, 71, 153, 0, 7, 3, 167, 0, 34, 28, 153, 0, 17, 42, 180, 0, 7]) (by decide +kernel)
theorem dX5_value_0 : decode cX5_value 0 = .ok (.aload_n 0, 1) := wtX5_value_0.1
theorem dX5_value_1 : decode cX5_value 1 = .ok (.iload_n 1, 1) := wtX5_value_0.2.1
theorem dX5_value_2 : decode cX5_value 2 = .ok (.invokestatic 67, 3) := wtX5_value_0.2.2.1
theorem dX5_value_5 : decode cX5_value 5 = .ok (.iconst 1, 1) := wtX5_value_0.2.2.2.1
theorem dX5_value_6 : decode cX5_value 6 = .ok (.invokevirtual 71, 3) := wtX5_value_0.2.2.2.2.1
theorem dX5_value_9 : decode cX5_value 9 = .ok (.ifCond .eq 7, 3) := wtX5_value_0.2.2.2.2.2.1
theorem dX5_value_12 : decode cX5_value 12 = .ok (.iconst 0, 1) := wtX5_value_0.2.2.2.2.2.2.1
theorem dX5_value_13 : decode cX5_value 13 = .ok (.goto 34, 3) := wtX5_value_0.2.2.2.2.2.2.2.1
theorem dX5_value_16 : decode cX5_value 16 = .ok (.iload_n 2, 1) := wtX5_value_0.2.2.2.2.2.2.2.2.1
theorem dX5_value_17 : decode cX5_value 17 = .ok (.ifCond .eq 17, 3) := wtX5_value_0.2.2.2.2.2.2.2.2.2.1
theorem dX5_value_20 : decode cX5_value 20 = .ok (.aload_n 0, 1) := wtX5_value_0.2.2.2.2.2.2.2.2.2.2.1
theorem dX5_value_21 : decode cX5_value 21 = .ok (.getfield 7, 3) := wtX5_value_0.2.2.2.2.2.2.2.2.2.2.2.1
theorem wtX5_value_24 : dwcj cX5_value 24 [(0, .iload_n 1, 1), (1, .laload, 1), (2, .invokestatic 108, 3), (5, .iconst 2, 1), (6, .irem, 1), (7, .goto 16, 3), (10, .aload_n 0, 1), (11, .getfield 7, 3), (14, .iload_n 1, 1), (15, .laload, 1), (16, .iconst 0, 1), (17, .invokestatic 25, 3), (20, .invokestatic 29, 3), (23, .ireturn, 1)] := dw_all (l := [27, 47, 184, 0, 108, 5, 112, 167, 0, 16, 42, 180, 0, 7, 27, 47, 3, 184, 0, 25, 184, 0, 29, 172]) (by decide +kernel)
theorem dX5_value_24 : decode cX5_value 24 = .ok (.iload_n 1, 1) := wtX5_value_24.1
theorem dX5_value_25 : decode cX5_value 25 = .ok (.laload, 1) := wtX5_value_24.2.1
theorem dX5_value_26 : decode cX5_value 26 = .ok (.invokestatic 108, 3) := wtX5_value_24.2.2.1
theorem dX5_value_29 : decode cX5_value 29 = .ok (.iconst 2, 1) := wtX5_value_24.2.2.2.1
theorem dX5_value_30 : decode cX5_value 30 = .ok (.irem, 1) := wtX5_value_24.2.2.2.2.1
theorem dX5_value_31 : decode cX5_value 31 = .ok (.goto 16, 3) := wtX5_value_24.2.2.2.2.2.1
theorem dX5_value_34 : decode cX5_value 34 = .ok (.aload_n 0, 1) := wtX5_value_24.2.2.2.2.2.2.1
theorem dX5_value_35 : decode cX5_value 35 = .ok (.getfield 7, 3) := wtX5_value_24.2.2.2.2.2.2.2.1
theorem dX5_value_38 : decode cX5_value 38 = .ok (.iload_n 1, 1) := wtX5_value_24.2.2.2.2.2.2.2.2.1
theorem dX5_value_39 : decode cX5_value 39 = .ok (.laload, 1) := wtX5_value_24.2.2.2.2.2.2.2.2.2.1
theorem dX5_value_40 : decode cX5_value 40 = .ok (.iconst 0, 1) := wtX5_value_24.2.2.2.2.2.2.2.2.2.2.1
theorem dX5_value_41 : decode cX5_value 41 = .ok (.invokestatic 25, 3) := wtX5_value_24.2.2.2.2.2.2.2.2.2.2.2.1
theorem dX5_value_44 : decode cX5_value 44 = .ok (.invokestatic 29, 3) := wtX5_value_24.2.2.2.2.2.2.2.2.2.2.2.2.1
theorem dX5_value_47 : decode cX5_value 47 = .ok (.ireturn, 1) := wtX5_value_24.2.2.2.2.2.2.2.2.2.2.2.2.2.1
theorem wtX5_divides_0 : dwcj cX5_divides 0 [(0, .aload_n 0, 1), (1, .iload_n 1, 1), (2, .invokestatic 67, 3), (5, .ifCond .ne 10, 3), (8, .iload_n 2, 1), (9, .invokestatic 67, 3), (12, .ifCond .eq 7, 3), (15, .iconst 1, 1), (16, .goto 4, 3), (19, .iconst 0, 1), (20, .iconst 1, 1), (21, .invokevirtual 71, 3)] := dw_all (l := [42, 27, 184, 0, 67, 154, 0, 10, 28, 184, 0, 67, 153, 0, 7, 4, 167, 0, 4, 3, 4, 182, 0, 71]) (by decide +kernel)
theorem dX5_divides_0 : decode cX5_divides 0 = .ok (.aload_n 0, 1) := wtX5_divides_0.1
theorem dX5_divides_1 : decode cX5_divides 1 = .ok (.iload_n 1, 1) := wtX5_divides_0.2.1
theorem dX5_divides_2 : decode cX5_divides 2 = .ok (.invokestatic 67, 3) := wtX5_divides_0.2.2.1
theorem dX5_divides_5 : decode cX5_divides 5 = .ok (.ifCond .ne 10, 3) := wtX5_divides_0.2.2.2.1
theorem dX5_divides_8 : decode cX5_divides 8 = .ok (.iload_n 2, 1) := wtX5_divides_0.2.2.2.2.1
theorem dX5_divides_9 : decode cX5_divides 9 = .ok (.invokestatic 67, 3) := wtX5_divides_0.2.2.2.2.2.1
theorem dX5_divides_12 : decode cX5_divides 12 = .ok (.ifCond .eq 7, 3) := wtX5_divides_0.2.2.2.2.2.2.1
theorem dX5_divides_15 : decode cX5_divides 15 = .ok (.iconst 1, 1) := wtX5_divides_0.2.2.2.2.2.2.2.1
theorem dX5_divides_16 : decode cX5_divides 16 = .ok (.goto 4, 3) := wtX5_divides_0.2.2.2.2.2.2.2.2.1
theorem dX5_divides_19 : decode cX5_divides 19 = .ok (.iconst 0, 1) := wtX5_divides_0.2.2.2.2.2.2.2.2.2.1
theorem dX5_divides_20 : decode cX5_divides 20 = .ok (.iconst 1, 1) := wtX5_divides_0.2.2.2.2.2.2.2.2.2.2.1
theorem dX5_divides_21 : decode cX5_divides 21 = .ok (.invokevirtual 71, 3) := wtX5_divides_0.2.2.2.2.2.2.2.2.2.2.2.1
theorem wtX5_divides_24 : dwcj cX5_divides 24 [(0, .ifCond .eq 5, 3), (3, .iconst 0, 1), (4, .ireturn, 1), (5, .aload_n 0, 1), (6, .getfield 7, 3), (9, .iload_n 1, 1), (10, .laload, 1), (11, .lconst 0, 1), (12, .lcmp, 1), (13, .ifCond .ne 22, 3), (16, .aload_n 0, 1), (17, .getfield 7, 3), (20, .iload_n 2, 1), (21, .laload, 1), (22, .lconst 0, 1), (23, .lcmp, 1)] := dw_all (l := [153, 0, 5, 3, 172, 42, 180, 0, 7, 27, 47, 9, 148, 154, 0, 22, 42, 180, 0, 7, 28, 47, 9, 148]) (by decide +kernel)
theorem dX5_divides_24 : decode cX5_divides 24 = .ok (.ifCond .eq 5, 3) := wtX5_divides_24.1
theorem dX5_divides_27 : decode cX5_divides 27 = .ok (.iconst 0, 1) := wtX5_divides_24.2.1
theorem dX5_divides_28 : decode cX5_divides 28 = .ok (.ireturn, 1) := wtX5_divides_24.2.2.1
theorem dX5_divides_29 : decode cX5_divides 29 = .ok (.aload_n 0, 1) := wtX5_divides_24.2.2.2.1
theorem dX5_divides_30 : decode cX5_divides 30 = .ok (.getfield 7, 3) := wtX5_divides_24.2.2.2.2.1
theorem dX5_divides_33 : decode cX5_divides 33 = .ok (.iload_n 1, 1) := wtX5_divides_24.2.2.2.2.2.1
theorem dX5_divides_34 : decode cX5_divides 34 = .ok (.laload, 1) := wtX5_divides_24.2.2.2.2.2.2.1
theorem dX5_divides_35 : decode cX5_divides 35 = .ok (.lconst 0, 1) := wtX5_divides_24.2.2.2.2.2.2.2.1
theorem dX5_divides_36 : decode cX5_divides 36 = .ok (.lcmp, 1) := wtX5_divides_24.2.2.2.2.2.2.2.2.1
theorem dX5_divides_37 : decode cX5_divides 37 = .ok (.ifCond .ne 22, 3) := wtX5_divides_24.2.2.2.2.2.2.2.2.2.1
theorem dX5_divides_40 : decode cX5_divides 40 = .ok (.aload_n 0, 1) := wtX5_divides_24.2.2.2.2.2.2.2.2.2.2.1
theorem dX5_divides_41 : decode cX5_divides 41 = .ok (.getfield 7, 3) := wtX5_divides_24.2.2.2.2.2.2.2.2.2.2.2.1
theorem dX5_divides_44 : decode cX5_divides 44 = .ok (.iload_n 2, 1) := wtX5_divides_24.2.2.2.2.2.2.2.2.2.2.2.2.1
theorem dX5_divides_45 : decode cX5_divides 45 = .ok (.laload, 1) := wtX5_divides_24.2.2.2.2.2.2.2.2.2.2.2.2.2.1
theorem dX5_divides_46 : decode cX5_divides 46 = .ok (.lconst 0, 1) := wtX5_divides_24.2.2.2.2.2.2.2.2.2.2.2.2.2.2.1
theorem dX5_divides_47 : decode cX5_divides 47 = .ok (.lcmp, 1) := wtX5_divides_24.2.2.2.2.2.2.2.2.2.2.2.2.2.2.2.1
theorem wtX5_divides_48 : dwcj cX5_divides 48 [(0, .ifCond .ne 7, 3), (3, .iconst 1, 1), (4, .goto 32, 3), (7, .iconst 0, 1), (8, .goto 28, 3), (11, .aload_n 0, 1), (12, .getfield 7, 3), (15, .iload_n 2, 1), (16, .laload, 1), (17, .aload_n 0, 1), (18, .getfield 7, 3), (21, .iload_n 1, 1), (22, .laload, 1), (23, .invokestatic 46, 3)] := dw_all (l := [154, 0, 7, 4, 167, 0, 32, 3, 167, 0, 28, 42, 180, 0, 7, 28, 47, 42, 180, 0, 7, 27, 47, 184, 0, 46]) (by decide +kernel)
theorem dX5_divides_48 : decode cX5_divides 48 = .ok (.ifCond .ne 7, 3) := wtX5_divides_48.1
theorem dX5_divides_51 : decode cX5_divides 51 = .ok (.iconst 1, 1) := wtX5_divides_48.2.1
theorem dX5_divides_52 : decode cX5_divides 52 = .ok (.goto 32, 3) := wtX5_divides_48.2.2.1
theorem dX5_divides_55 : decode cX5_divides 55 = .ok (.iconst 0, 1) := wtX5_divides_48.2.2.2.1
theorem dX5_divides_56 : decode cX5_divides 56 = .ok (.goto 28, 3) := wtX5_divides_48.2.2.2.2.1
theorem dX5_divides_59 : decode cX5_divides 59 = .ok (.aload_n 0, 1) := wtX5_divides_48.2.2.2.2.2.1
theorem dX5_divides_60 : decode cX5_divides 60 = .ok (.getfield 7, 3) := wtX5_divides_48.2.2.2.2.2.2.1
theorem dX5_divides_63 : decode cX5_divides 63 = .ok (.iload_n 2, 1) := wtX5_divides_48.2.2.2.2.2.2.2.1
theorem dX5_divides_64 : decode cX5_divides 64 = .ok (.laload, 1) := wtX5_divides_48.2.2.2.2.2.2.2.2.1
theorem dX5_divides_65 : decode cX5_divides 65 = .ok (.aload_n 0, 1) := wtX5_divides_48.2.2.2.2.2.2.2.2.2.1
theorem dX5_divides_66 : decode cX5_divides 66 = .ok (.getfield 7, 3) := wtX5_divides_48.2.2.2.2.2.2.2.2.2.2.1
theorem dX5_divides_69 : decode cX5_divides 69 = .ok (.iload_n 1, 1) := wtX5_divides_48.2.2.2.2.2.2.2.2.2.2.2.1
theorem dX5_divides_70 : decode cX5_divides 70 = .ok (.laload, 1) := wtX5_divides_48.2.2.2.2.2.2.2.2.2.2.2.2.1
theorem dX5_divides_71 : decode cX5_divides 71 = .ok (.invokestatic 46, 3) := wtX5_divides_48.2.2.2.2.2.2.2.2.2.2.2.2.2.1
theorem wtX5_divides_74 : dwcj cX5_divides 74 [(0, .lconst 0, 1), (1, .lcmp, 1), (2, .ifCond .ne 7, 3), (5, .iconst 1, 1), (6, .goto 4, 3), (9, .iconst 0, 1), (10, .ireturn, 1)] := dw_all (l := [9, 148, 154, 0, 7, 4, 167, 0, 4, 3, 172]) (by decide +kernel)
theorem dX5_divides_74 : decode cX5_divides 74 = .ok (.lconst 0, 1) := wtX5_divides_74.1
theorem dX5_divides_75 : decode cX5_divides 75 = .ok (.lcmp, 1) := wtX5_divides_74.2.1
theorem dX5_divides_76 : decode cX5_divides 76 = .ok (.ifCond .ne 7, 3) := wtX5_divides_74.2.2.1
theorem dX5_divides_79 : decode cX5_divides 79 = .ok (.iconst 1, 1) := wtX5_divides_74.2.2.2.1
theorem dX5_divides_80 : decode cX5_divides 80 = .ok (.goto 4, 3) := wtX5_divides_74.2.2.2.2.1
theorem dX5_divides_83 : decode cX5_divides 83 = .ok (.iconst 0, 1) := wtX5_divides_74.2.2.2.2.2.1
theorem dX5_divides_84 : decode cX5_divides 84 = .ok (.ireturn, 1) := wtX5_divides_74.2.2.2.2.2.2.1
theorem wtX5_isFree_0 : dwcj cX5_isFree 0 [(0, .aload_n 0, 1), (1, .iload_n 1, 1), (2, .invokestatic 67, 3), (5, .iconst 1, 1), (6, .invokevirtual 71, 3), (9, .ifCond .ne 36, 3), (12, .aload_n 0, 1), (13, .getfield 7, 3), (16, .iload_n 1, 1), (17, .laload, 1), (18, .invokestatic 102, 3), (21, .aload_n 0, 1), (22, .getfield 7, 3)] := dw_all (l := [42, 27, 184, 0, 67, 4, 182, 0, 71, 154, 0, 36, 42, 180, 0, 7, 27, 47, 184, 0, 102, 42, 180, 0, 7]) (by decide +kernel)
theorem dX5_isFree_0 : decode cX5_isFree 0 = .ok (.aload_n 0, 1) := wtX5_isFree_0.1
theorem dX5_isFree_1 : decode cX5_isFree 1 = .ok (.iload_n 1, 1) := wtX5_isFree_0.2.1
theorem dX5_isFree_2 : decode cX5_isFree 2 = .ok (.invokestatic 67, 3) := wtX5_isFree_0.2.2.1
theorem dX5_isFree_5 : decode cX5_isFree 5 = .ok (.iconst 1, 1) := wtX5_isFree_0.2.2.2.1
theorem dX5_isFree_6 : decode cX5_isFree 6 = .ok (.invokevirtual 71, 3) := wtX5_isFree_0.2.2.2.2.1
theorem dX5_isFree_9 : decode cX5_isFree 9 = .ok (.ifCond .ne 36, 3) := wtX5_isFree_0.2.2.2.2.2.1
theorem dX5_isFree_12 : decode cX5_isFree 12 = .ok (.aload_n 0, 1) := wtX5_isFree_0.2.2.2.2.2.2.1
theorem dX5_isFree_13 : decode cX5_isFree 13 = .ok (.getfield 7, 3) := wtX5_isFree_0.2.2.2.2.2.2.2.1
theorem dX5_isFree_16 : decode cX5_isFree 16 = .ok (.iload_n 1, 1) := wtX5_isFree_0.2.2.2.2.2.2.2.2.1
theorem dX5_isFree_17 : decode cX5_isFree 17 = .ok (.laload, 1) := wtX5_isFree_0.2.2.2.2.2.2.2.2.2.1
theorem dX5_isFree_18 : decode cX5_isFree 18 = .ok (.invokestatic 102, 3) := wtX5_isFree_0.2.2.2.2.2.2.2.2.2.2.1
theorem dX5_isFree_21 : decode cX5_isFree 21 = .ok (.aload_n 0, 1) := wtX5_isFree_0.2.2.2.2.2.2.2.2.2.2.2.1
theorem dX5_isFree_22 : decode cX5_isFree 22 = .ok (.getfield 7, 3) := wtX5_isFree_0.2.2.2.2.2.2.2.2.2.2.2.2.1
theorem wtX5_isFree_25 : dwcj cX5_isFree 25 [(0, .iload_n 1, 1), (1, .laload, 1), (2, .iconst 1, 1), (3, .lushr, 1), (4, .invokestatic 102, 3), (7, .iconst 0, 1), (8, .invokestatic 94, 3), (11, .lconst 1, 1), (12, .lcmp, 1), (13, .ifCond .ne 7, 3), (16, .iconst 1, 1), (17, .goto 4, 3), (20, .iconst 0, 1), (21, .ireturn, 1)] := dw_all (l := [27, 47, 4, 125, 184, 0, 102, 3, 184, 0, 94, 10, 148, 154, 0, 7, 4, 167, 0, 4, 3, 172]) (by decide +kernel)
theorem dX5_isFree_25 : decode cX5_isFree 25 = .ok (.iload_n 1, 1) := wtX5_isFree_25.1
theorem dX5_isFree_26 : decode cX5_isFree 26 = .ok (.laload, 1) := wtX5_isFree_25.2.1
theorem dX5_isFree_27 : decode cX5_isFree 27 = .ok (.iconst 1, 1) := wtX5_isFree_25.2.2.1
theorem dX5_isFree_28 : decode cX5_isFree 28 = .ok (.lushr, 1) := wtX5_isFree_25.2.2.2.1
theorem dX5_isFree_29 : decode cX5_isFree 29 = .ok (.invokestatic 102, 3) := wtX5_isFree_25.2.2.2.2.1
theorem dX5_isFree_32 : decode cX5_isFree 32 = .ok (.iconst 0, 1) := wtX5_isFree_25.2.2.2.2.2.1
theorem dX5_isFree_33 : decode cX5_isFree 33 = .ok (.invokestatic 94, 3) := wtX5_isFree_25.2.2.2.2.2.2.1
theorem dX5_isFree_36 : decode cX5_isFree 36 = .ok (.lconst 1, 1) := wtX5_isFree_25.2.2.2.2.2.2.2.1
theorem dX5_isFree_37 : decode cX5_isFree 37 = .ok (.lcmp, 1) := wtX5_isFree_25.2.2.2.2.2.2.2.2.1
theorem dX5_isFree_38 : decode cX5_isFree 38 = .ok (.ifCond .ne 7, 3) := wtX5_isFree_25.2.2.2.2.2.2.2.2.2.1
theorem dX5_isFree_41 : decode cX5_isFree 41 = .ok (.iconst 1, 1) := wtX5_isFree_25.2.2.2.2.2.2.2.2.2.2.1
theorem dX5_isFree_42 : decode cX5_isFree 42 = .ok (.goto 4, 3) := wtX5_isFree_25.2.2.2.2.2.2.2.2.2.2.2.1
theorem dX5_isFree_45 : decode cX5_isFree 45 = .ok (.iconst 0, 1) := wtX5_isFree_25.2.2.2.2.2.2.2.2.2.2.2.2.1
theorem dX5_isFree_46 : decode cX5_isFree 46 = .ok (.ireturn, 1) := wtX5_isFree_25.2.2.2.2.2.2.2.2.2.2.2.2.2.1
theorem wtX5_irreducible_0 : dwcj cX5_irreducible 0 [(0, .aload_n 0, 1), (1, .iload_n 1, 1), (2, .invokestatic 67, 3), (5, .iconst 1, 1), (6, .invokevirtual 71, 3), (9, .ifCond .eq 5, 3), (12, .iconst 0, 1), (13, .ireturn, 1), (14, .aload_n 0, 1), (15, .getfield 7, 3), (18, .iload_n 1, 1), (19, .laload, 1), (20, .invokestatic 33, 3), (23, .bipush 12, 2)] := dw_all (l := [42, 27, 184, 0, 67, 4, 182, 0, 71, 153, 0, 5, 3, 172, 42, 180, 0, 7, 27, 47, 184, 0, 33, 16, 12]) (by decide +kernel)
theorem dX5_irreducible_0 : decode cX5_irreducible 0 = .ok (.aload_n 0, 1) := wtX5_irreducible_0.1
theorem dX5_irreducible_1 : decode cX5_irreducible 1 = .ok (.iload_n 1, 1) := wtX5_irreducible_0.2.1
theorem dX5_irreducible_2 : decode cX5_irreducible 2 = .ok (.invokestatic 67, 3) := wtX5_irreducible_0.2.2.1
theorem dX5_irreducible_5 : decode cX5_irreducible 5 = .ok (.iconst 1, 1) := wtX5_irreducible_0.2.2.2.1
theorem dX5_irreducible_6 : decode cX5_irreducible 6 = .ok (.invokevirtual 71, 3) := wtX5_irreducible_0.2.2.2.2.1
theorem dX5_irreducible_9 : decode cX5_irreducible 9 = .ok (.ifCond .eq 5, 3) := wtX5_irreducible_0.2.2.2.2.2.1
theorem dX5_irreducible_12 : decode cX5_irreducible 12 = .ok (.iconst 0, 1) := wtX5_irreducible_0.2.2.2.2.2.2.1
theorem dX5_irreducible_13 : decode cX5_irreducible 13 = .ok (.ireturn, 1) := wtX5_irreducible_0.2.2.2.2.2.2.2.1
theorem dX5_irreducible_14 : decode cX5_irreducible 14 = .ok (.aload_n 0, 1) := wtX5_irreducible_0.2.2.2.2.2.2.2.2.1
theorem dX5_irreducible_15 : decode cX5_irreducible 15 = .ok (.getfield 7, 3) := wtX5_irreducible_0.2.2.2.2.2.2.2.2.2.1
theorem dX5_irreducible_18 : decode cX5_irreducible 18 = .ok (.iload_n 1, 1) := wtX5_irreducible_0.2.2.2.2.2.2.2.2.2.2.1
theorem dX5_irreducible_19 : decode cX5_irreducible 19 = .ok (.laload, 1) := wtX5_irreducible_0.2.2.2.2.2.2.2.2.2.2.2.1
theorem dX5_irreducible_20 : decode cX5_irreducible 20 = .ok (.invokestatic 33, 3) := wtX5_irreducible_0.2.2.2.2.2.2.2.2.2.2.2.2.1
theorem dX5_irreducible_23 : decode cX5_irreducible 23 = .ok (.bipush 12, 2) := wtX5_irreducible_0.2.2.2.2.2.2.2.2.2.2.2.2.2.1
theorem wtX5_irreducible_25 : dwcj cX5_irreducible 25 [(0, .if_icmp .le 10, 3), (3, .aload_n 0, 1), (4, .invokevirtual 63, 3), (7, .goto 15, 3), (10, .aload_n 0, 1), (11, .getfield 7, 3), (14, .iload_n 1, 1), (15, .laload, 1), (16, .invokestatic 49, 3), (19, .invokestatic 29, 3), (22, .ireturn, 1)] := dw_all (l := [164, 0, 10, 42, 182, 0, 63, 167, 0, 15, 42, 180, 0, 7, 27, 47, 184, 0, 49, 184, 0, 29, 172]) (by decide +kernel)
theorem dX5_irreducible_25 : decode cX5_irreducible 25 = .ok (.if_icmp .le 10, 3) := wtX5_irreducible_25.1
theorem dX5_irreducible_28 : decode cX5_irreducible 28 = .ok (.aload_n 0, 1) := wtX5_irreducible_25.2.1
theorem dX5_irreducible_29 : decode cX5_irreducible 29 = .ok (.invokevirtual 63, 3) := wtX5_irreducible_25.2.2.1
theorem dX5_irreducible_32 : decode cX5_irreducible 32 = .ok (.goto 15, 3) := wtX5_irreducible_25.2.2.2.1
theorem dX5_irreducible_35 : decode cX5_irreducible 35 = .ok (.aload_n 0, 1) := wtX5_irreducible_25.2.2.2.2.1
theorem dX5_irreducible_36 : decode cX5_irreducible 36 = .ok (.getfield 7, 3) := wtX5_irreducible_25.2.2.2.2.2.1
theorem dX5_irreducible_39 : decode cX5_irreducible 39 = .ok (.iload_n 1, 1) := wtX5_irreducible_25.2.2.2.2.2.2.1
theorem dX5_irreducible_40 : decode cX5_irreducible 40 = .ok (.laload, 1) := wtX5_irreducible_25.2.2.2.2.2.2.2.1
theorem dX5_irreducible_41 : decode cX5_irreducible 41 = .ok (.invokestatic 49, 3) := wtX5_irreducible_25.2.2.2.2.2.2.2.2.1
theorem dX5_irreducible_44 : decode cX5_irreducible 44 = .ok (.invokestatic 29, 3) := wtX5_irreducible_25.2.2.2.2.2.2.2.2.2.1
theorem dX5_irreducible_47 : decode cX5_irreducible 47 = .ok (.ireturn, 1) := wtX5_irreducible_25.2.2.2.2.2.2.2.2.2.2.1
theorem wtX5_rank_0 : dwcj cX5_rank 0 [(0, .aload_n 0, 1), (1, .iload_n 1, 1), (2, .invokestatic 67, 3), (5, .iconst 1, 1), (6, .invokevirtual 71, 3), (9, .ifCond .eq 5, 3), (12, .iconst 0, 1), (13, .ireturn, 1), (14, .aload_n 0, 1), (15, .getfield 7, 3), (18, .iload_n 1, 1), (19, .laload, 1), (20, .invokestatic 33, 3), (23, .bipush 8, 2)] := dw_all (l := [42, 27, 184, 0, 67, 4, 182, 0, 71, 153, 0, 5, 3, 172, 42, 180, 0, 7, 27, 47, 184, 0, 33, 16, 8]) (by decide +kernel)
theorem dX5_rank_0 : decode cX5_rank 0 = .ok (.aload_n 0, 1) := wtX5_rank_0.1
theorem dX5_rank_1 : decode cX5_rank 1 = .ok (.iload_n 1, 1) := wtX5_rank_0.2.1
theorem dX5_rank_2 : decode cX5_rank 2 = .ok (.invokestatic 67, 3) := wtX5_rank_0.2.2.1
theorem dX5_rank_5 : decode cX5_rank 5 = .ok (.iconst 1, 1) := wtX5_rank_0.2.2.2.1
theorem dX5_rank_6 : decode cX5_rank 6 = .ok (.invokevirtual 71, 3) := wtX5_rank_0.2.2.2.2.1
theorem dX5_rank_9 : decode cX5_rank 9 = .ok (.ifCond .eq 5, 3) := wtX5_rank_0.2.2.2.2.2.1
theorem dX5_rank_12 : decode cX5_rank 12 = .ok (.iconst 0, 1) := wtX5_rank_0.2.2.2.2.2.2.1
theorem dX5_rank_13 : decode cX5_rank 13 = .ok (.ireturn, 1) := wtX5_rank_0.2.2.2.2.2.2.2.1
theorem dX5_rank_14 : decode cX5_rank 14 = .ok (.aload_n 0, 1) := wtX5_rank_0.2.2.2.2.2.2.2.2.1
theorem dX5_rank_15 : decode cX5_rank 15 = .ok (.getfield 7, 3) := wtX5_rank_0.2.2.2.2.2.2.2.2.2.1
theorem dX5_rank_18 : decode cX5_rank 18 = .ok (.iload_n 1, 1) := wtX5_rank_0.2.2.2.2.2.2.2.2.2.2.1
theorem dX5_rank_19 : decode cX5_rank 19 = .ok (.laload, 1) := wtX5_rank_0.2.2.2.2.2.2.2.2.2.2.2.1
theorem dX5_rank_20 : decode cX5_rank 20 = .ok (.invokestatic 33, 3) := wtX5_rank_0.2.2.2.2.2.2.2.2.2.2.2.2.1
theorem dX5_rank_23 : decode cX5_rank 23 = .ok (.bipush 8, 2) := wtX5_rank_0.2.2.2.2.2.2.2.2.2.2.2.2.2.1
theorem wtX5_rank_25 : dwcj cX5_rank 25 [(0, .if_icmp .le 10, 3), (3, .aload_n 0, 1), (4, .invokevirtual 63, 3), (7, .goto 12, 3), (10, .aload_n 0, 1), (11, .getfield 7, 3), (14, .iload_n 1, 1), (15, .laload, 1), (16, .invokestatic 144, 3), (19, .ireturn, 1)] := dw_all (l := [164, 0, 10, 42, 182, 0, 63, 167, 0, 12, 42, 180, 0, 7, 27, 47, 184, 0, 144, 172]) (by decide +kernel)
theorem dX5_rank_25 : decode cX5_rank 25 = .ok (.if_icmp .le 10, 3) := wtX5_rank_25.1
theorem dX5_rank_28 : decode cX5_rank 28 = .ok (.aload_n 0, 1) := wtX5_rank_25.2.1
theorem dX5_rank_29 : decode cX5_rank 29 = .ok (.invokevirtual 63, 3) := wtX5_rank_25.2.2.1
theorem dX5_rank_32 : decode cX5_rank 32 = .ok (.goto 12, 3) := wtX5_rank_25.2.2.2.1
theorem dX5_rank_35 : decode cX5_rank 35 = .ok (.aload_n 0, 1) := wtX5_rank_25.2.2.2.2.1
theorem dX5_rank_36 : decode cX5_rank 36 = .ok (.getfield 7, 3) := wtX5_rank_25.2.2.2.2.2.1
theorem dX5_rank_39 : decode cX5_rank 39 = .ok (.iload_n 1, 1) := wtX5_rank_25.2.2.2.2.2.2.1
theorem dX5_rank_40 : decode cX5_rank 40 = .ok (.laload, 1) := wtX5_rank_25.2.2.2.2.2.2.2.1
theorem dX5_rank_41 : decode cX5_rank 41 = .ok (.invokestatic 144, 3) := wtX5_rank_25.2.2.2.2.2.2.2.2.1
theorem dX5_rank_44 : decode cX5_rank 44 = .ok (.ireturn, 1) := wtX5_rank_25.2.2.2.2.2.2.2.2.2.1
theorem wtX5_factors_0 : dwcj cX5_factors 0 [(0, .aload_n 0, 1), (1, .iload_n 1, 1), (2, .invokestatic 67, 3), (5, .iconst 1, 1), (6, .invokevirtual 71, 3), (9, .ifCond .eq 6, 3), (12, .ldc 111, 2), (14, .areturn, 1), (15, .aload_n 0, 1), (16, .getfield 7, 3), (19, .iload_n 1, 1), (20, .laload, 1), (21, .invokestatic 33, 3)] := dw_all (l := [42, 27, 184, 0, 67, 4, 182, 0, 71, 153, 0, 6, 18, 111, 176, 42, 180, 0, 7, 27, 47, 184, 0, 33]) (by decide +kernel)
theorem dX5_factors_0 : decode cX5_factors 0 = .ok (.aload_n 0, 1) := wtX5_factors_0.1
theorem dX5_factors_1 : decode cX5_factors 1 = .ok (.iload_n 1, 1) := wtX5_factors_0.2.1
theorem dX5_factors_2 : decode cX5_factors 2 = .ok (.invokestatic 67, 3) := wtX5_factors_0.2.2.1
theorem dX5_factors_5 : decode cX5_factors 5 = .ok (.iconst 1, 1) := wtX5_factors_0.2.2.2.1
theorem dX5_factors_6 : decode cX5_factors 6 = .ok (.invokevirtual 71, 3) := wtX5_factors_0.2.2.2.2.1
theorem dX5_factors_9 : decode cX5_factors 9 = .ok (.ifCond .eq 6, 3) := wtX5_factors_0.2.2.2.2.2.1
theorem dX5_factors_12 : decode cX5_factors 12 = .ok (.ldc 111, 2) := wtX5_factors_0.2.2.2.2.2.2.1
theorem dX5_factors_14 : decode cX5_factors 14 = .ok (.areturn, 1) := wtX5_factors_0.2.2.2.2.2.2.2.1
theorem dX5_factors_15 : decode cX5_factors 15 = .ok (.aload_n 0, 1) := wtX5_factors_0.2.2.2.2.2.2.2.2.1
theorem dX5_factors_16 : decode cX5_factors 16 = .ok (.getfield 7, 3) := wtX5_factors_0.2.2.2.2.2.2.2.2.2.1
theorem dX5_factors_19 : decode cX5_factors 19 = .ok (.iload_n 1, 1) := wtX5_factors_0.2.2.2.2.2.2.2.2.2.2.1
theorem dX5_factors_20 : decode cX5_factors 20 = .ok (.laload, 1) := wtX5_factors_0.2.2.2.2.2.2.2.2.2.2.2.1
theorem dX5_factors_21 : decode cX5_factors 21 = .ok (.invokestatic 33, 3) := wtX5_factors_0.2.2.2.2.2.2.2.2.2.2.2.2.1
theorem wtX5_factors_24 : dwcj cX5_factors 24 [(0, .iconst 0, 1), (1, .bipush 8, 2), (3, .invokestatic 21, 3), (6, .ifCond .ne 16, 3), (9, .aload_n 0, 1), (10, .dup, 1), (11, .getfield 56, 3), (14, .iconst 1, 1), (15, .iadd, 1), (16, .putfield 56, 3), (19, .ldc 147, 2), (21, .areturn, 1), (22, .new 115, 3)] := dw_all (l := [3, 16, 8, 184, 0, 21, 154, 0, 16, 42, 89, 180, 0, 56, 4, 96, 181, 0, 56, 18, 147, 176, 187, 0, 115]) (by decide +kernel)
theorem dX5_factors_24 : decode cX5_factors 24 = .ok (.iconst 0, 1) := wtX5_factors_24.1
theorem dX5_factors_25 : decode cX5_factors 25 = .ok (.bipush 8, 2) := wtX5_factors_24.2.1
theorem dX5_factors_27 : decode cX5_factors 27 = .ok (.invokestatic 21, 3) := wtX5_factors_24.2.2.1
theorem dX5_factors_30 : decode cX5_factors 30 = .ok (.ifCond .ne 16, 3) := wtX5_factors_24.2.2.2.1
theorem dX5_factors_33 : decode cX5_factors 33 = .ok (.aload_n 0, 1) := wtX5_factors_24.2.2.2.2.1
theorem dX5_factors_34 : decode cX5_factors 34 = .ok (.dup, 1) := wtX5_factors_24.2.2.2.2.2.1
theorem dX5_factors_35 : decode cX5_factors 35 = .ok (.getfield 56, 3) := wtX5_factors_24.2.2.2.2.2.2.1
theorem dX5_factors_38 : decode cX5_factors 38 = .ok (.iconst 1, 1) := wtX5_factors_24.2.2.2.2.2.2.2.1
theorem dX5_factors_39 : decode cX5_factors 39 = .ok (.iadd, 1) := wtX5_factors_24.2.2.2.2.2.2.2.2.1
theorem dX5_factors_40 : decode cX5_factors 40 = .ok (.putfield 56, 3) := wtX5_factors_24.2.2.2.2.2.2.2.2.2.1
theorem dX5_factors_43 : decode cX5_factors 43 = .ok (.ldc 147, 2) := wtX5_factors_24.2.2.2.2.2.2.2.2.2.2.1
theorem dX5_factors_45 : decode cX5_factors 45 = .ok (.areturn, 1) := wtX5_factors_24.2.2.2.2.2.2.2.2.2.2.2.1
theorem dX5_factors_46 : decode cX5_factors 46 = .ok (.new 115, 3) := wtX5_factors_24.2.2.2.2.2.2.2.2.2.2.2.2.1
theorem wtX5_factors_49 : dwcj cX5_factors 49 [(0, .dup, 1), (1, .invokespecial 117, 3), (4, .astore_n 2, 1), (5, .aload_n 0, 1), (6, .getfield 7, 3), (9, .iload_n 1, 1), (10, .laload, 1), (11, .lstore_n 3, 1), (12, .iconst 2, 1), (13, .istore 5, 2), (15, .lload_n 3, 1), (16, .lconst 1, 1), (17, .lcmp, 1), (18, .ifCond .eq 53, 3), (21, .lload_n 3, 1), (22, .iload 5, 2)] := dw_all (l := [89, 183, 0, 117, 77, 42, 180, 0, 7, 27, 47, 66, 5, 54, 5, 33, 10, 148, 153, 0, 53, 33, 21, 5]) (by decide +kernel)
theorem dX5_factors_49 : decode cX5_factors 49 = .ok (.dup, 1) := wtX5_factors_49.1
theorem dX5_factors_50 : decode cX5_factors 50 = .ok (.invokespecial 117, 3) := wtX5_factors_49.2.1
theorem dX5_factors_53 : decode cX5_factors 53 = .ok (.astore_n 2, 1) := wtX5_factors_49.2.2.1
theorem dX5_factors_54 : decode cX5_factors 54 = .ok (.aload_n 0, 1) := wtX5_factors_49.2.2.2.1
theorem dX5_factors_55 : decode cX5_factors 55 = .ok (.getfield 7, 3) := wtX5_factors_49.2.2.2.2.1
theorem dX5_factors_58 : decode cX5_factors 58 = .ok (.iload_n 1, 1) := wtX5_factors_49.2.2.2.2.2.1
theorem dX5_factors_59 : decode cX5_factors 59 = .ok (.laload, 1) := wtX5_factors_49.2.2.2.2.2.2.1
theorem dX5_factors_60 : decode cX5_factors 60 = .ok (.lstore_n 3, 1) := wtX5_factors_49.2.2.2.2.2.2.2.1
theorem dX5_factors_61 : decode cX5_factors 61 = .ok (.iconst 2, 1) := wtX5_factors_49.2.2.2.2.2.2.2.2.1
theorem dX5_factors_62 : decode cX5_factors 62 = .ok (.istore 5, 2) := wtX5_factors_49.2.2.2.2.2.2.2.2.2.1
theorem dX5_factors_64 : decode cX5_factors 64 = .ok (.lload_n 3, 1) := wtX5_factors_49.2.2.2.2.2.2.2.2.2.2.1
theorem dX5_factors_65 : decode cX5_factors 65 = .ok (.lconst 1, 1) := wtX5_factors_49.2.2.2.2.2.2.2.2.2.2.2.1
theorem dX5_factors_66 : decode cX5_factors 66 = .ok (.lcmp, 1) := wtX5_factors_49.2.2.2.2.2.2.2.2.2.2.2.2.1
theorem dX5_factors_67 : decode cX5_factors 67 = .ok (.ifCond .eq 53, 3) := wtX5_factors_49.2.2.2.2.2.2.2.2.2.2.2.2.2.1
theorem dX5_factors_70 : decode cX5_factors 70 = .ok (.lload_n 3, 1) := wtX5_factors_49.2.2.2.2.2.2.2.2.2.2.2.2.2.2.1
theorem dX5_factors_71 : decode cX5_factors 71 = .ok (.iload 5, 2) := wtX5_factors_49.2.2.2.2.2.2.2.2.2.2.2.2.2.2.2.1
theorem wtX5_factors_73 : dwcj cX5_factors 73 [(0, .i2l, 1), (1, .invokestatic 46, 3), (4, .lconst 0, 1), (5, .lcmp, 1), (6, .ifCond .ne 35, 3), (9, .aload_n 2, 1), (10, .invokevirtual 118, 3), (13, .ifCond .le 10, 3), (16, .aload_n 2, 1), (17, .bipush 32, 2), (19, .invokevirtual 121, 3), (22, .pop, 1), (23, .aload_n 2, 1)] := dw_all (l := [133, 184, 0, 46, 9, 148, 154, 0, 35, 44, 182, 0, 118, 158, 0, 10, 44, 16, 32, 182, 0, 121, 87, 44]) (by decide +kernel)
theorem dX5_factors_73 : decode cX5_factors 73 = .ok (.i2l, 1) := wtX5_factors_73.1
theorem dX5_factors_74 : decode cX5_factors 74 = .ok (.invokestatic 46, 3) := wtX5_factors_73.2.1
theorem dX5_factors_77 : decode cX5_factors 77 = .ok (.lconst 0, 1) := wtX5_factors_73.2.2.1
theorem dX5_factors_78 : decode cX5_factors 78 = .ok (.lcmp, 1) := wtX5_factors_73.2.2.2.1
theorem dX5_factors_79 : decode cX5_factors 79 = .ok (.ifCond .ne 35, 3) := wtX5_factors_73.2.2.2.2.1
theorem dX5_factors_82 : decode cX5_factors 82 = .ok (.aload_n 2, 1) := wtX5_factors_73.2.2.2.2.2.1
theorem dX5_factors_83 : decode cX5_factors 83 = .ok (.invokevirtual 118, 3) := wtX5_factors_73.2.2.2.2.2.2.1
theorem dX5_factors_86 : decode cX5_factors 86 = .ok (.ifCond .le 10, 3) := wtX5_factors_73.2.2.2.2.2.2.2.1
theorem dX5_factors_89 : decode cX5_factors 89 = .ok (.aload_n 2, 1) := wtX5_factors_73.2.2.2.2.2.2.2.2.1
theorem dX5_factors_90 : decode cX5_factors 90 = .ok (.bipush 32, 2) := wtX5_factors_73.2.2.2.2.2.2.2.2.2.1
theorem dX5_factors_92 : decode cX5_factors 92 = .ok (.invokevirtual 121, 3) := wtX5_factors_73.2.2.2.2.2.2.2.2.2.2.1
theorem dX5_factors_95 : decode cX5_factors 95 = .ok (.pop, 1) := wtX5_factors_73.2.2.2.2.2.2.2.2.2.2.2.1
theorem dX5_factors_96 : decode cX5_factors 96 = .ok (.aload_n 2, 1) := wtX5_factors_73.2.2.2.2.2.2.2.2.2.2.2.2.1
theorem wtX5_factors_97 : dwcj cX5_factors 97 [(0, .iload 5, 2), (2, .invokevirtual 125, 3), (5, .pop, 1), (6, .lload_n 3, 1), (7, .iload 5, 2), (9, .i2l, 1), (10, .invokestatic 37, 3), (13, .lstore_n 3, 1), (14, .goto (-41), 3), (17, .iinc 5 1, 3), (20, .goto (-53), 3), (23, .aload_n 2, 1)] := dw_all (l := [21, 5, 182, 0, 125, 87, 33, 21, 5, 133, 184, 0, 37, 66, 167, 255, 215, 132, 5, 1, 167, 255, 203, 44]) (by decide +kernel)
theorem dX5_factors_97 : decode cX5_factors 97 = .ok (.iload 5, 2) := wtX5_factors_97.1
theorem dX5_factors_99 : decode cX5_factors 99 = .ok (.invokevirtual 125, 3) := wtX5_factors_97.2.1
theorem dX5_factors_102 : decode cX5_factors 102 = .ok (.pop, 1) := wtX5_factors_97.2.2.1
theorem dX5_factors_103 : decode cX5_factors 103 = .ok (.lload_n 3, 1) := wtX5_factors_97.2.2.2.1
theorem dX5_factors_104 : decode cX5_factors 104 = .ok (.iload 5, 2) := wtX5_factors_97.2.2.2.2.1
theorem dX5_factors_106 : decode cX5_factors 106 = .ok (.i2l, 1) := wtX5_factors_97.2.2.2.2.2.1
theorem dX5_factors_107 : decode cX5_factors 107 = .ok (.invokestatic 37, 3) := wtX5_factors_97.2.2.2.2.2.2.1
theorem dX5_factors_110 : decode cX5_factors 110 = .ok (.lstore_n 3, 1) := wtX5_factors_97.2.2.2.2.2.2.2.1
theorem dX5_factors_111 : decode cX5_factors 111 = .ok (.goto (-41), 3) := wtX5_factors_97.2.2.2.2.2.2.2.2.1
theorem dX5_factors_114 : decode cX5_factors 114 = .ok (.iinc 5 1, 3) := wtX5_factors_97.2.2.2.2.2.2.2.2.2.1
theorem dX5_factors_117 : decode cX5_factors 117 = .ok (.goto (-53), 3) := wtX5_factors_97.2.2.2.2.2.2.2.2.2.2.1
theorem dX5_factors_120 : decode cX5_factors 120 = .ok (.aload_n 2, 1) := wtX5_factors_97.2.2.2.2.2.2.2.2.2.2.2.1
theorem wtX5_factors_121 : dwcj cX5_factors 121 [(0, .invokevirtual 128, 3), (3, .areturn, 1)] := dw_all (l := [182, 0, 128, 176]) (by decide +kernel)
theorem dX5_factors_121 : decode cX5_factors 121 = .ok (.invokevirtual 128, 3) := wtX5_factors_121.1
theorem dX5_factors_124 : decode cX5_factors 124 = .ok (.areturn, 1) := wtX5_factors_121.2.1
theorem wtX5_period_0 : dwcj cX5_period 0 [(0, .aload_n 0, 1), (1, .iload_n 1, 1), (2, .invokestatic 67, 3), (5, .iconst 1, 1), (6, .invokevirtual 71, 3), (9, .ifCond .eq 5, 3), (12, .iconst 0, 1), (13, .ireturn, 1), (14, .aload_n 0, 1), (15, .getfield 7, 3), (18, .iload_n 1, 1), (19, .laload, 1), (20, .invokestatic 33, 3), (23, .iconst 1, 1)] := dw_all (l := [42, 27, 184, 0, 67, 4, 182, 0, 71, 153, 0, 5, 3, 172, 42, 180, 0, 7, 27, 47, 184, 0, 33, 4]) (by decide +kernel)
theorem dX5_period_0 : decode cX5_period 0 = .ok (.aload_n 0, 1) := wtX5_period_0.1
theorem dX5_period_1 : decode cX5_period 1 = .ok (.iload_n 1, 1) := wtX5_period_0.2.1
theorem dX5_period_2 : decode cX5_period 2 = .ok (.invokestatic 67, 3) := wtX5_period_0.2.2.1
theorem dX5_period_5 : decode cX5_period 5 = .ok (.iconst 1, 1) := wtX5_period_0.2.2.2.1
theorem dX5_period_6 : decode cX5_period 6 = .ok (.invokevirtual 71, 3) := wtX5_period_0.2.2.2.2.1
theorem dX5_period_9 : decode cX5_period 9 = .ok (.ifCond .eq 5, 3) := wtX5_period_0.2.2.2.2.2.1
theorem dX5_period_12 : decode cX5_period 12 = .ok (.iconst 0, 1) := wtX5_period_0.2.2.2.2.2.2.1
theorem dX5_period_13 : decode cX5_period 13 = .ok (.ireturn, 1) := wtX5_period_0.2.2.2.2.2.2.2.1
theorem dX5_period_14 : decode cX5_period 14 = .ok (.aload_n 0, 1) := wtX5_period_0.2.2.2.2.2.2.2.2.1
theorem dX5_period_15 : decode cX5_period 15 = .ok (.getfield 7, 3) := wtX5_period_0.2.2.2.2.2.2.2.2.2.1
theorem dX5_period_18 : decode cX5_period 18 = .ok (.iload_n 1, 1) := wtX5_period_0.2.2.2.2.2.2.2.2.2.2.1
theorem dX5_period_19 : decode cX5_period 19 = .ok (.laload, 1) := wtX5_period_0.2.2.2.2.2.2.2.2.2.2.2.1
theorem dX5_period_20 : decode cX5_period 20 = .ok (.invokestatic 33, 3) := wtX5_period_0.2.2.2.2.2.2.2.2.2.2.2.2.1
theorem dX5_period_23 : decode cX5_period 23 = .ok (.iconst 1, 1) := wtX5_period_0.2.2.2.2.2.2.2.2.2.2.2.2.2.1
theorem wtX5_period_24 : dwcj cX5_period 24 [(0, .bipush 8, 2), (2, .invokestatic 21, 3), (5, .ifCond .eq 16, 3), (8, .aload_n 0, 1), (9, .getfield 7, 3), (12, .iload_n 1, 1), (13, .laload, 1), (14, .iconst 0, 1), (15, .invokestatic 25, 3), (18, .ifCond .ne 8, 3), (21, .aload_n 0, 1), (22, .invokevirtual 63, 3)] := dw_all (l := [16, 8, 184, 0, 21, 153, 0, 16, 42, 180, 0, 7, 27, 47, 3, 184, 0, 25, 154, 0, 8, 42, 182, 0, 63]) (by decide +kernel)
theorem dX5_period_24 : decode cX5_period 24 = .ok (.bipush 8, 2) := wtX5_period_24.1
theorem dX5_period_26 : decode cX5_period 26 = .ok (.invokestatic 21, 3) := wtX5_period_24.2.1
theorem dX5_period_29 : decode cX5_period 29 = .ok (.ifCond .eq 16, 3) := wtX5_period_24.2.2.1
theorem dX5_period_32 : decode cX5_period 32 = .ok (.aload_n 0, 1) := wtX5_period_24.2.2.2.1
theorem dX5_period_33 : decode cX5_period 33 = .ok (.getfield 7, 3) := wtX5_period_24.2.2.2.2.1
theorem dX5_period_36 : decode cX5_period 36 = .ok (.iload_n 1, 1) := wtX5_period_24.2.2.2.2.2.1
theorem dX5_period_37 : decode cX5_period 37 = .ok (.laload, 1) := wtX5_period_24.2.2.2.2.2.2.1
theorem dX5_period_38 : decode cX5_period 38 = .ok (.iconst 0, 1) := wtX5_period_24.2.2.2.2.2.2.2.1
theorem dX5_period_39 : decode cX5_period 39 = .ok (.invokestatic 25, 3) := wtX5_period_24.2.2.2.2.2.2.2.2.1
theorem dX5_period_42 : decode cX5_period 42 = .ok (.ifCond .ne 8, 3) := wtX5_period_24.2.2.2.2.2.2.2.2.2.1
theorem dX5_period_45 : decode cX5_period 45 = .ok (.aload_n 0, 1) := wtX5_period_24.2.2.2.2.2.2.2.2.2.2.1
theorem dX5_period_46 : decode cX5_period 46 = .ok (.invokevirtual 63, 3) := wtX5_period_24.2.2.2.2.2.2.2.2.2.2.2.1
theorem wtX5_period_49 : dwcj cX5_period 49 [(0, .ireturn, 1), (1, .iconst 1, 1), (2, .istore_n 2, 1), (3, .ldc2_w 44, 3), (6, .aload_n 0, 1), (7, .getfield 7, 3), (10, .iload_n 1, 1), (11, .laload, 1), (12, .invokestatic 46, 3), (15, .lstore_n 3, 1), (16, .lload_n 3, 1), (17, .lconst 1, 1), (18, .lcmp, 1), (19, .ifCond .eq 22, 3), (22, .iinc 2 1, 3)] := dw_all (l := [172, 4, 61, 20, 0, 44, 42, 180, 0, 7, 27, 47, 184, 0, 46, 66, 33, 10, 148, 153, 0, 22, 132, 2, 1]) (by decide +kernel)
theorem dX5_period_49 : decode cX5_period 49 = .ok (.ireturn, 1) := wtX5_period_49.1
theorem dX5_period_50 : decode cX5_period 50 = .ok (.iconst 1, 1) := wtX5_period_49.2.1
theorem dX5_period_51 : decode cX5_period 51 = .ok (.istore_n 2, 1) := wtX5_period_49.2.2.1
theorem dX5_period_52 : decode cX5_period 52 = .ok (.ldc2_w 44, 3) := wtX5_period_49.2.2.2.1
theorem dX5_period_55 : decode cX5_period 55 = .ok (.aload_n 0, 1) := wtX5_period_49.2.2.2.2.1
theorem dX5_period_56 : decode cX5_period 56 = .ok (.getfield 7, 3) := wtX5_period_49.2.2.2.2.2.1
theorem dX5_period_59 : decode cX5_period 59 = .ok (.iload_n 1, 1) := wtX5_period_49.2.2.2.2.2.2.1
theorem dX5_period_60 : decode cX5_period 60 = .ok (.laload, 1) := wtX5_period_49.2.2.2.2.2.2.2.1
theorem dX5_period_61 : decode cX5_period 61 = .ok (.invokestatic 46, 3) := wtX5_period_49.2.2.2.2.2.2.2.2.1
theorem dX5_period_64 : decode cX5_period 64 = .ok (.lstore_n 3, 1) := wtX5_period_49.2.2.2.2.2.2.2.2.2.1
theorem dX5_period_65 : decode cX5_period 65 = .ok (.lload_n 3, 1) := wtX5_period_49.2.2.2.2.2.2.2.2.2.2.1
theorem dX5_period_66 : decode cX5_period 66 = .ok (.lconst 1, 1) := wtX5_period_49.2.2.2.2.2.2.2.2.2.2.2.1
theorem dX5_period_67 : decode cX5_period 67 = .ok (.lcmp, 1) := wtX5_period_49.2.2.2.2.2.2.2.2.2.2.2.2.1
theorem dX5_period_68 : decode cX5_period 68 = .ok (.ifCond .eq 22, 3) := wtX5_period_49.2.2.2.2.2.2.2.2.2.2.2.2.2.1
theorem dX5_period_71 : decode cX5_period 71 = .ok (.iinc 2 1, 3) := wtX5_period_49.2.2.2.2.2.2.2.2.2.2.2.2.2.2.1
theorem wtX5_period_74 : dwcj cX5_period 74 [(0, .lload_n 3, 1), (1, .iconst 1, 1), (2, .lshl, 1), (3, .aload_n 0, 1), (4, .getfield 7, 3), (7, .iload_n 1, 1), (8, .laload, 1), (9, .invokestatic 46, 3), (12, .lstore_n 3, 1), (13, .goto (-22), 3), (16, .iload_n 2, 1), (17, .ireturn, 1)] := dw_all (l := [33, 4, 121, 42, 180, 0, 7, 27, 47, 184, 0, 46, 66, 167, 255, 234, 28, 172]) (by decide +kernel)
theorem dX5_period_74 : decode cX5_period 74 = .ok (.lload_n 3, 1) := wtX5_period_74.1
theorem dX5_period_75 : decode cX5_period 75 = .ok (.iconst 1, 1) := wtX5_period_74.2.1
theorem dX5_period_76 : decode cX5_period 76 = .ok (.lshl, 1) := wtX5_period_74.2.2.1
theorem dX5_period_77 : decode cX5_period 77 = .ok (.aload_n 0, 1) := wtX5_period_74.2.2.2.1
theorem dX5_period_78 : decode cX5_period 78 = .ok (.getfield 7, 3) := wtX5_period_74.2.2.2.2.1
theorem dX5_period_81 : decode cX5_period 81 = .ok (.iload_n 1, 1) := wtX5_period_74.2.2.2.2.2.1
theorem dX5_period_82 : decode cX5_period 82 = .ok (.laload, 1) := wtX5_period_74.2.2.2.2.2.2.1
theorem dX5_period_83 : decode cX5_period 83 = .ok (.invokestatic 46, 3) := wtX5_period_74.2.2.2.2.2.2.2.1
theorem dX5_period_86 : decode cX5_period 86 = .ok (.lstore_n 3, 1) := wtX5_period_74.2.2.2.2.2.2.2.2.1
theorem dX5_period_87 : decode cX5_period 87 = .ok (.goto (-22), 3) := wtX5_period_74.2.2.2.2.2.2.2.2.2.1
theorem dX5_period_90 : decode cX5_period 90 = .ok (.iload_n 2, 1) := wtX5_period_74.2.2.2.2.2.2.2.2.2.2.1
theorem dX5_period_91 : decode cX5_period 91 = .ok (.ireturn, 1) := wtX5_period_74.2.2.2.2.2.2.2.2.2.2.2.1
theorem wtX5_many_0 : dwcj cX5_many 0 [(0, .aload_n 0, 1), (1, .iload_n 1, 1), (2, .iconst 1, 1), (3, .bipush 8, 2), (5, .invokestatic 21, 3), (8, .ifCond .ne 7, 3), (11, .iconst 1, 1), (12, .goto 4, 3), (15, .iconst 0, 1), (16, .iconst 1, 1), (17, .invokevirtual 71, 3), (20, .ifCond .eq 7, 3), (23, .iconst 0, 1)] := dw_all (l := [42, 27, 4, 16, 8, 184, 0, 21, 154, 0, 7, 4, 167, 0, 4, 3, 4, 182, 0, 71, 153, 0, 7, 3]) (by decide +kernel)
theorem dX5_many_0 : decode cX5_many 0 = .ok (.aload_n 0, 1) := wtX5_many_0.1
theorem dX5_many_1 : decode cX5_many 1 = .ok (.iload_n 1, 1) := wtX5_many_0.2.1
theorem dX5_many_2 : decode cX5_many 2 = .ok (.iconst 1, 1) := wtX5_many_0.2.2.1
theorem dX5_many_3 : decode cX5_many 3 = .ok (.bipush 8, 2) := wtX5_many_0.2.2.2.1
theorem dX5_many_5 : decode cX5_many 5 = .ok (.invokestatic 21, 3) := wtX5_many_0.2.2.2.2.1
theorem dX5_many_8 : decode cX5_many 8 = .ok (.ifCond .ne 7, 3) := wtX5_many_0.2.2.2.2.2.1
theorem dX5_many_11 : decode cX5_many 11 = .ok (.iconst 1, 1) := wtX5_many_0.2.2.2.2.2.2.1
theorem dX5_many_12 : decode cX5_many 12 = .ok (.goto 4, 3) := wtX5_many_0.2.2.2.2.2.2.2.1
theorem dX5_many_15 : decode cX5_many 15 = .ok (.iconst 0, 1) := wtX5_many_0.2.2.2.2.2.2.2.2.1
theorem dX5_many_16 : decode cX5_many 16 = .ok (.iconst 1, 1) := wtX5_many_0.2.2.2.2.2.2.2.2.2.1
theorem dX5_many_17 : decode cX5_many 17 = .ok (.invokevirtual 71, 3) := wtX5_many_0.2.2.2.2.2.2.2.2.2.2.1
theorem dX5_many_20 : decode cX5_many 20 = .ok (.ifCond .eq 7, 3) := wtX5_many_0.2.2.2.2.2.2.2.2.2.2.2.1
theorem dX5_many_23 : decode cX5_many 23 = .ok (.iconst 0, 1) := wtX5_many_0.2.2.2.2.2.2.2.2.2.2.2.2.1
theorem wtX5_many_24 : dwcj cX5_many 24 [(0, .goto 7, 3), (3, .iload_n 1, 1), (4, .invokestatic 149, 3), (7, .ireturn, 1)] := dw_all (l := [167, 0, 7, 27, 184, 0, 149, 172]) (by decide +kernel)
theorem dX5_many_24 : decode cX5_many 24 = .ok (.goto 7, 3) := wtX5_many_24.1
theorem dX5_many_27 : decode cX5_many 27 = .ok (.iload_n 1, 1) := wtX5_many_24.2.1
theorem dX5_many_28 : decode cX5_many 28 = .ok (.invokestatic 149, 3) := wtX5_many_24.2.2.1
theorem dX5_many_31 : decode cX5_many 31 = .ok (.ireturn, 1) := wtX5_many_24.2.2.2.1
theorem wtX5_formula_0 : dwcj cX5_formula 0 [(0, .aload_n 0, 1), (1, .iload_n 1, 1), (2, .iconst 1, 1), (3, .bipush 8, 2), (5, .invokestatic 21, 3), (8, .ifCond .ne 7, 3), (11, .iconst 1, 1), (12, .goto 4, 3), (15, .iconst 0, 1), (16, .iconst 1, 1), (17, .invokevirtual 71, 3), (20, .ifCond .eq 5, 3), (23, .iconst 0, 1)] := dw_all (l := [42, 27, 4, 16, 8, 184, 0, 21, 154, 0, 7, 4, 167, 0, 4, 3, 4, 182, 0, 71, 153, 0, 5, 3]) (by decide +kernel)
theorem dX5_formula_0 : decode cX5_formula 0 = .ok (.aload_n 0, 1) := wtX5_formula_0.1
theorem dX5_formula_1 : decode cX5_formula 1 = .ok (.iload_n 1, 1) := wtX5_formula_0.2.1
theorem dX5_formula_2 : decode cX5_formula 2 = .ok (.iconst 1, 1) := wtX5_formula_0.2.2.1
theorem dX5_formula_3 : decode cX5_formula 3 = .ok (.bipush 8, 2) := wtX5_formula_0.2.2.2.1
theorem dX5_formula_5 : decode cX5_formula 5 = .ok (.invokestatic 21, 3) := wtX5_formula_0.2.2.2.2.1
theorem dX5_formula_8 : decode cX5_formula 8 = .ok (.ifCond .ne 7, 3) := wtX5_formula_0.2.2.2.2.2.1
theorem dX5_formula_11 : decode cX5_formula 11 = .ok (.iconst 1, 1) := wtX5_formula_0.2.2.2.2.2.2.1
theorem dX5_formula_12 : decode cX5_formula 12 = .ok (.goto 4, 3) := wtX5_formula_0.2.2.2.2.2.2.2.1
theorem dX5_formula_15 : decode cX5_formula 15 = .ok (.iconst 0, 1) := wtX5_formula_0.2.2.2.2.2.2.2.2.1
theorem dX5_formula_16 : decode cX5_formula 16 = .ok (.iconst 1, 1) := wtX5_formula_0.2.2.2.2.2.2.2.2.2.1
theorem dX5_formula_17 : decode cX5_formula 17 = .ok (.invokevirtual 71, 3) := wtX5_formula_0.2.2.2.2.2.2.2.2.2.2.1
theorem dX5_formula_20 : decode cX5_formula 20 = .ok (.ifCond .eq 5, 3) := wtX5_formula_0.2.2.2.2.2.2.2.2.2.2.2.1
theorem dX5_formula_23 : decode cX5_formula 23 = .ok (.iconst 0, 1) := wtX5_formula_0.2.2.2.2.2.2.2.2.2.2.2.2.1
theorem wtX5_formula_24 : dwcj cX5_formula 24 [(0, .ireturn, 1), (1, .iconst 0, 1), (2, .istore_n 2, 1), (3, .iconst 1, 1), (4, .istore_n 3, 1), (5, .iload_n 3, 1), (6, .iload_n 1, 1), (7, .if_icmp .gt 29, 3), (10, .iload_n 1, 1), (11, .iload_n 3, 1), (12, .irem, 1), (13, .ifCond .ne 17, 3), (16, .iload_n 2, 1), (17, .getstatic 153, 3), (20, .iload_n 3, 1), (21, .iaload, 1), (22, .iconst 1, 1), (23, .iload_n 1, 1)] := dw_all (l := [172, 3, 61, 4, 62, 29, 27, 163, 0, 29, 27, 29, 112, 154, 0, 17, 28, 178, 0, 153, 29, 46, 4, 27]) (by decide +kernel)
theorem dX5_formula_24 : decode cX5_formula 24 = .ok (.ireturn, 1) := wtX5_formula_24.1
theorem dX5_formula_25 : decode cX5_formula 25 = .ok (.iconst 0, 1) := wtX5_formula_24.2.1
theorem dX5_formula_26 : decode cX5_formula 26 = .ok (.istore_n 2, 1) := wtX5_formula_24.2.2.1
theorem dX5_formula_27 : decode cX5_formula 27 = .ok (.iconst 1, 1) := wtX5_formula_24.2.2.2.1
theorem dX5_formula_28 : decode cX5_formula 28 = .ok (.istore_n 3, 1) := wtX5_formula_24.2.2.2.2.1
theorem dX5_formula_29 : decode cX5_formula 29 = .ok (.iload_n 3, 1) := wtX5_formula_24.2.2.2.2.2.1
theorem dX5_formula_30 : decode cX5_formula 30 = .ok (.iload_n 1, 1) := wtX5_formula_24.2.2.2.2.2.2.1
theorem dX5_formula_31 : decode cX5_formula 31 = .ok (.if_icmp .gt 29, 3) := wtX5_formula_24.2.2.2.2.2.2.2.1
theorem dX5_formula_34 : decode cX5_formula 34 = .ok (.iload_n 1, 1) := wtX5_formula_24.2.2.2.2.2.2.2.2.1
theorem dX5_formula_35 : decode cX5_formula 35 = .ok (.iload_n 3, 1) := wtX5_formula_24.2.2.2.2.2.2.2.2.2.1
theorem dX5_formula_36 : decode cX5_formula 36 = .ok (.irem, 1) := wtX5_formula_24.2.2.2.2.2.2.2.2.2.2.1
theorem dX5_formula_37 : decode cX5_formula 37 = .ok (.ifCond .ne 17, 3) := wtX5_formula_24.2.2.2.2.2.2.2.2.2.2.2.1
theorem dX5_formula_40 : decode cX5_formula 40 = .ok (.iload_n 2, 1) := wtX5_formula_24.2.2.2.2.2.2.2.2.2.2.2.2.1
theorem dX5_formula_41 : decode cX5_formula 41 = .ok (.getstatic 153, 3) := wtX5_formula_24.2.2.2.2.2.2.2.2.2.2.2.2.2.1
theorem dX5_formula_44 : decode cX5_formula 44 = .ok (.iload_n 3, 1) := wtX5_formula_24.2.2.2.2.2.2.2.2.2.2.2.2.2.2.1
theorem dX5_formula_45 : decode cX5_formula 45 = .ok (.iaload, 1) := wtX5_formula_24.2.2.2.2.2.2.2.2.2.2.2.2.2.2.2.1
theorem dX5_formula_46 : decode cX5_formula 46 = .ok (.iconst 1, 1) := wtX5_formula_24.2.2.2.2.2.2.2.2.2.2.2.2.2.2.2.2.1
theorem dX5_formula_47 : decode cX5_formula 47 = .ok (.iload_n 1, 1) := wtX5_formula_24.2.2.2.2.2.2.2.2.2.2.2.2.2.2.2.2.2.1
theorem wtX5_formula_48 : dwcj cX5_formula 48 [(0, .iload_n 3, 1), (1, .idiv, 1), (2, .ishl, 1), (3, .imul, 1), (4, .iadd, 1), (5, .istore_n 2, 1), (6, .iinc 3 1, 3), (9, .goto (-28), 3), (12, .iload_n 2, 1), (13, .iload_n 1, 1), (14, .idiv, 1), (15, .ireturn, 1)] := dw_all (l := [29, 108, 120, 104, 96, 61, 132, 3, 1, 167, 255, 228, 28, 27, 108, 172]) (by decide +kernel)
theorem dX5_formula_48 : decode cX5_formula 48 = .ok (.iload_n 3, 1) := wtX5_formula_48.1
theorem dX5_formula_49 : decode cX5_formula 49 = .ok (.idiv, 1) := wtX5_formula_48.2.1
theorem dX5_formula_50 : decode cX5_formula 50 = .ok (.ishl, 1) := wtX5_formula_48.2.2.1
theorem dX5_formula_51 : decode cX5_formula 51 = .ok (.imul, 1) := wtX5_formula_48.2.2.2.1
theorem dX5_formula_52 : decode cX5_formula 52 = .ok (.iadd, 1) := wtX5_formula_48.2.2.2.2.1
theorem dX5_formula_53 : decode cX5_formula 53 = .ok (.istore_n 2, 1) := wtX5_formula_48.2.2.2.2.2.1
theorem dX5_formula_54 : decode cX5_formula 54 = .ok (.iinc 3 1, 3) := wtX5_formula_48.2.2.2.2.2.2.1
theorem dX5_formula_57 : decode cX5_formula 57 = .ok (.goto (-28), 3) := wtX5_formula_48.2.2.2.2.2.2.2.1
theorem dX5_formula_60 : decode cX5_formula 60 = .ok (.iload_n 2, 1) := wtX5_formula_48.2.2.2.2.2.2.2.2.1
theorem dX5_formula_61 : decode cX5_formula 61 = .ok (.iload_n 1, 1) := wtX5_formula_48.2.2.2.2.2.2.2.2.2.1
theorem dX5_formula_62 : decode cX5_formula 62 = .ok (.idiv, 1) := wtX5_formula_48.2.2.2.2.2.2.2.2.2.2.1
theorem dX5_formula_63 : decode cX5_formula 63 = .ok (.ireturn, 1) := wtX5_formula_48.2.2.2.2.2.2.2.2.2.2.2.1
theorem wtX5_found_0 : dwcj cX5_found 0 [(0, .iload_n 1, 1), (1, .istore_n 3, 1), (2, .iconst 0, 1), (3, .istore 4, 2), (5, .iload 4, 2), (7, .bipush 6, 2), (9, .if_icmp .ge 48, 3), (12, .aload_n 0, 1), (13, .getfield 7, 3), (16, .iload 4, 2), (18, .laload, 1), (19, .aload_n 0, 1), (20, .getfield 7, 3), (23, .iload_n 1, 1)] := dw_all (l := [27, 62, 3, 54, 4, 21, 4, 16, 6, 162, 0, 48, 42, 180, 0, 7, 21, 4, 47, 42, 180, 0, 7, 27]) (by decide +kernel)
theorem dX5_found_0 : decode cX5_found 0 = .ok (.iload_n 1, 1) := wtX5_found_0.1
theorem dX5_found_1 : decode cX5_found 1 = .ok (.istore_n 3, 1) := wtX5_found_0.2.1
theorem dX5_found_2 : decode cX5_found 2 = .ok (.iconst 0, 1) := wtX5_found_0.2.2.1
theorem dX5_found_3 : decode cX5_found 3 = .ok (.istore 4, 2) := wtX5_found_0.2.2.2.1
theorem dX5_found_5 : decode cX5_found 5 = .ok (.iload 4, 2) := wtX5_found_0.2.2.2.2.1
theorem dX5_found_7 : decode cX5_found 7 = .ok (.bipush 6, 2) := wtX5_found_0.2.2.2.2.2.1
theorem dX5_found_9 : decode cX5_found 9 = .ok (.if_icmp .ge 48, 3) := wtX5_found_0.2.2.2.2.2.2.1
theorem dX5_found_12 : decode cX5_found 12 = .ok (.aload_n 0, 1) := wtX5_found_0.2.2.2.2.2.2.2.1
theorem dX5_found_13 : decode cX5_found 13 = .ok (.getfield 7, 3) := wtX5_found_0.2.2.2.2.2.2.2.2.1
theorem dX5_found_16 : decode cX5_found 16 = .ok (.iload 4, 2) := wtX5_found_0.2.2.2.2.2.2.2.2.2.1
theorem dX5_found_18 : decode cX5_found 18 = .ok (.laload, 1) := wtX5_found_0.2.2.2.2.2.2.2.2.2.2.1
theorem dX5_found_19 : decode cX5_found 19 = .ok (.aload_n 0, 1) := wtX5_found_0.2.2.2.2.2.2.2.2.2.2.2.1
theorem dX5_found_20 : decode cX5_found 20 = .ok (.getfield 7, 3) := wtX5_found_0.2.2.2.2.2.2.2.2.2.2.2.2.1
theorem dX5_found_23 : decode cX5_found 23 = .ok (.iload_n 1, 1) := wtX5_found_0.2.2.2.2.2.2.2.2.2.2.2.2.2.1
theorem wtX5_found_24 : dwcj cX5_found 24 [(0, .laload, 1), (1, .lcmp, 1), (2, .ifCond .ne 25, 3), (5, .iload_n 2, 1), (6, .ifCond .eq 12, 3), (9, .iload 4, 2), (11, .iload_n 3, 1), (12, .if_icmp .le 15, 3), (15, .goto 9, 3), (18, .iload 4, 2), (20, .iload_n 3, 1), (21, .if_icmp .ge 6, 3)] := dw_all (l := [47, 148, 154, 0, 25, 28, 153, 0, 12, 21, 4, 29, 164, 0, 15, 167, 0, 9, 21, 4, 29, 162, 0, 6]) (by decide +kernel)
theorem dX5_found_24 : decode cX5_found 24 = .ok (.laload, 1) := wtX5_found_24.1
theorem dX5_found_25 : decode cX5_found 25 = .ok (.lcmp, 1) := wtX5_found_24.2.1
theorem dX5_found_26 : decode cX5_found 26 = .ok (.ifCond .ne 25, 3) := wtX5_found_24.2.2.1
theorem dX5_found_29 : decode cX5_found 29 = .ok (.iload_n 2, 1) := wtX5_found_24.2.2.2.1
theorem dX5_found_30 : decode cX5_found 30 = .ok (.ifCond .eq 12, 3) := wtX5_found_24.2.2.2.2.1
theorem dX5_found_33 : decode cX5_found 33 = .ok (.iload 4, 2) := wtX5_found_24.2.2.2.2.2.1
theorem dX5_found_35 : decode cX5_found 35 = .ok (.iload_n 3, 1) := wtX5_found_24.2.2.2.2.2.2.1
theorem dX5_found_36 : decode cX5_found 36 = .ok (.if_icmp .le 15, 3) := wtX5_found_24.2.2.2.2.2.2.2.1
theorem dX5_found_39 : decode cX5_found 39 = .ok (.goto 9, 3) := wtX5_found_24.2.2.2.2.2.2.2.2.1
theorem dX5_found_42 : decode cX5_found 42 = .ok (.iload 4, 2) := wtX5_found_24.2.2.2.2.2.2.2.2.2.1
theorem dX5_found_44 : decode cX5_found 44 = .ok (.iload_n 3, 1) := wtX5_found_24.2.2.2.2.2.2.2.2.2.2.1
theorem dX5_found_45 : decode cX5_found 45 = .ok (.if_icmp .ge 6, 3) := wtX5_found_24.2.2.2.2.2.2.2.2.2.2.2.1
theorem wtX5_found_48 : dwcj cX5_found 48 [(0, .iload 4, 2), (2, .istore_n 3, 1), (3, .iinc 4 1, 3), (6, .goto (-49), 3), (9, .iload_n 3, 1), (10, .ireturn, 1)] := dw_all (l := [21, 4, 62, 132, 4, 1, 167, 255, 207, 29, 172]) (by decide +kernel)
theorem dX5_found_48 : decode cX5_found 48 = .ok (.iload 4, 2) := wtX5_found_48.1
theorem dX5_found_50 : decode cX5_found 50 = .ok (.istore_n 3, 1) := wtX5_found_48.2.1
theorem dX5_found_51 : decode cX5_found 51 = .ok (.iinc 4 1, 3) := wtX5_found_48.2.2.1
theorem dX5_found_54 : decode cX5_found 54 = .ok (.goto (-49), 3) := wtX5_found_48.2.2.2.1
theorem dX5_found_57 : decode cX5_found 57 = .ok (.iload_n 3, 1) := wtX5_found_48.2.2.2.2.1
theorem dX5_found_58 : decode cX5_found 58 = .ok (.ireturn, 1) := wtX5_found_48.2.2.2.2.2.1
theorem wtX5_find_0 : dwcj cX5_find 0 [(0, .aload_n 0, 1), (1, .iload_n 1, 1), (2, .invokestatic 67, 3), (5, .iconst 1, 1), (6, .invokevirtual 71, 3), (9, .ifCond .eq 7, 3), (12, .iconst 0, 1), (13, .goto 9, 3), (16, .aload_n 0, 1), (17, .iload_n 1, 1), (18, .iload_n 2, 1), (19, .invokevirtual 157, 3), (22, .ireturn, 1)] := dw_all (l := [42, 27, 184, 0, 67, 4, 182, 0, 71, 153, 0, 7, 3, 167, 0, 9, 42, 27, 28, 182, 0, 157, 172]) (by decide +kernel)
theorem dX5_find_0 : decode cX5_find 0 = .ok (.aload_n 0, 1) := wtX5_find_0.1
theorem dX5_find_1 : decode cX5_find 1 = .ok (.iload_n 1, 1) := wtX5_find_0.2.1
theorem dX5_find_2 : decode cX5_find 2 = .ok (.invokestatic 67, 3) := wtX5_find_0.2.2.1
theorem dX5_find_5 : decode cX5_find 5 = .ok (.iconst 1, 1) := wtX5_find_0.2.2.2.1
theorem dX5_find_6 : decode cX5_find 6 = .ok (.invokevirtual 71, 3) := wtX5_find_0.2.2.2.2.1
theorem dX5_find_9 : decode cX5_find 9 = .ok (.ifCond .eq 7, 3) := wtX5_find_0.2.2.2.2.2.1
theorem dX5_find_12 : decode cX5_find 12 = .ok (.iconst 0, 1) := wtX5_find_0.2.2.2.2.2.2.1
theorem dX5_find_13 : decode cX5_find 13 = .ok (.goto 9, 3) := wtX5_find_0.2.2.2.2.2.2.2.1
theorem dX5_find_16 : decode cX5_find 16 = .ok (.aload_n 0, 1) := wtX5_find_0.2.2.2.2.2.2.2.2.1
theorem dX5_find_17 : decode cX5_find 17 = .ok (.iload_n 1, 1) := wtX5_find_0.2.2.2.2.2.2.2.2.2.1
theorem dX5_find_18 : decode cX5_find 18 = .ok (.iload_n 2, 1) := wtX5_find_0.2.2.2.2.2.2.2.2.2.2.1
theorem dX5_find_19 : decode cX5_find 19 = .ok (.invokevirtual 157, 3) := wtX5_find_0.2.2.2.2.2.2.2.2.2.2.2.1
theorem dX5_find_22 : decode cX5_find 22 = .ok (.ireturn, 1) := wtX5_find_0.2.2.2.2.2.2.2.2.2.2.2.2.1
theorem wtX5_houseTold_0 : dwcj cX5_houseTold 0 [(0, .iconst 0, 1), (1, .istore_n 2, 1), (2, .iconst 0, 1), (3, .istore_n 3, 1), (4, .aload_n 0, 1), (5, .getfield 7, 3), (8, .astore 4, 2), (10, .aload 4, 2), (12, .arraylength, 1), (13, .istore 5, 2), (15, .iconst 0, 1), (16, .istore 6, 2), (18, .iload 6, 2), (20, .iload 5, 2), (22, .if_icmp .ge 42, 3)] := dw_all (l := [3, 61, 3, 62, 42, 180, 0, 7, 58, 4, 25, 4, 190, 54, 5, 3, 54, 6, 21, 6, 21, 5, 162, 0, 42]) (by decide +kernel)
theorem dX5_houseTold_0 : decode cX5_houseTold 0 = .ok (.iconst 0, 1) := wtX5_houseTold_0.1
theorem dX5_houseTold_1 : decode cX5_houseTold 1 = .ok (.istore_n 2, 1) := wtX5_houseTold_0.2.1
theorem dX5_houseTold_2 : decode cX5_houseTold 2 = .ok (.iconst 0, 1) := wtX5_houseTold_0.2.2.1
theorem dX5_houseTold_3 : decode cX5_houseTold 3 = .ok (.istore_n 3, 1) := wtX5_houseTold_0.2.2.2.1
theorem dX5_houseTold_4 : decode cX5_houseTold 4 = .ok (.aload_n 0, 1) := wtX5_houseTold_0.2.2.2.2.1
theorem dX5_houseTold_5 : decode cX5_houseTold 5 = .ok (.getfield 7, 3) := wtX5_houseTold_0.2.2.2.2.2.1
theorem dX5_houseTold_8 : decode cX5_houseTold 8 = .ok (.astore 4, 2) := wtX5_houseTold_0.2.2.2.2.2.2.1
theorem dX5_houseTold_10 : decode cX5_houseTold 10 = .ok (.aload 4, 2) := wtX5_houseTold_0.2.2.2.2.2.2.2.1
theorem dX5_houseTold_12 : decode cX5_houseTold 12 = .ok (.arraylength, 1) := wtX5_houseTold_0.2.2.2.2.2.2.2.2.1
theorem dX5_houseTold_13 : decode cX5_houseTold 13 = .ok (.istore 5, 2) := wtX5_houseTold_0.2.2.2.2.2.2.2.2.2.1
theorem dX5_houseTold_15 : decode cX5_houseTold 15 = .ok (.iconst 0, 1) := wtX5_houseTold_0.2.2.2.2.2.2.2.2.2.2.1
theorem dX5_houseTold_16 : decode cX5_houseTold 16 = .ok (.istore 6, 2) := wtX5_houseTold_0.2.2.2.2.2.2.2.2.2.2.2.1
theorem dX5_houseTold_18 : decode cX5_houseTold 18 = .ok (.iload 6, 2) := wtX5_houseTold_0.2.2.2.2.2.2.2.2.2.2.2.2.1
theorem dX5_houseTold_20 : decode cX5_houseTold 20 = .ok (.iload 5, 2) := wtX5_houseTold_0.2.2.2.2.2.2.2.2.2.2.2.2.2.1
theorem dX5_houseTold_22 : decode cX5_houseTold 22 = .ok (.if_icmp .ge 42, 3) := wtX5_houseTold_0.2.2.2.2.2.2.2.2.2.2.2.2.2.2.1
theorem wtX5_houseTold_25 : dwcj cX5_houseTold 25 [(0, .aload 4, 2), (2, .iload 6, 2), (4, .laload, 1), (5, .lstore 7, 2), (7, .iload_n 2, 1), (8, .lload 7, 2), (10, .lconst 0, 1), (11, .lcmp, 1), (12, .ifCond .ne 7, 3), (15, .iconst 1, 1), (16, .goto 4, 3), (19, .iconst 0, 1), (20, .invokestatic 29, 3), (23, .iadd, 1)] := dw_all (l := [25, 4, 21, 6, 47, 55, 7, 28, 22, 7, 9, 148, 154, 0, 7, 4, 167, 0, 4, 3, 184, 0, 29, 96]) (by decide +kernel)
theorem dX5_houseTold_25 : decode cX5_houseTold 25 = .ok (.aload 4, 2) := wtX5_houseTold_25.1
theorem dX5_houseTold_27 : decode cX5_houseTold 27 = .ok (.iload 6, 2) := wtX5_houseTold_25.2.1
theorem dX5_houseTold_29 : decode cX5_houseTold 29 = .ok (.laload, 1) := wtX5_houseTold_25.2.2.1
theorem dX5_houseTold_30 : decode cX5_houseTold 30 = .ok (.lstore 7, 2) := wtX5_houseTold_25.2.2.2.1
theorem dX5_houseTold_32 : decode cX5_houseTold 32 = .ok (.iload_n 2, 1) := wtX5_houseTold_25.2.2.2.2.1
theorem dX5_houseTold_33 : decode cX5_houseTold 33 = .ok (.lload 7, 2) := wtX5_houseTold_25.2.2.2.2.2.1
theorem dX5_houseTold_35 : decode cX5_houseTold 35 = .ok (.lconst 0, 1) := wtX5_houseTold_25.2.2.2.2.2.2.1
theorem dX5_houseTold_36 : decode cX5_houseTold 36 = .ok (.lcmp, 1) := wtX5_houseTold_25.2.2.2.2.2.2.2.1
theorem dX5_houseTold_37 : decode cX5_houseTold 37 = .ok (.ifCond .ne 7, 3) := wtX5_houseTold_25.2.2.2.2.2.2.2.2.1
theorem dX5_houseTold_40 : decode cX5_houseTold 40 = .ok (.iconst 1, 1) := wtX5_houseTold_25.2.2.2.2.2.2.2.2.2.1
theorem dX5_houseTold_41 : decode cX5_houseTold 41 = .ok (.goto 4, 3) := wtX5_houseTold_25.2.2.2.2.2.2.2.2.2.2.1
theorem dX5_houseTold_44 : decode cX5_houseTold 44 = .ok (.iconst 0, 1) := wtX5_houseTold_25.2.2.2.2.2.2.2.2.2.2.2.1
theorem dX5_houseTold_45 : decode cX5_houseTold 45 = .ok (.invokestatic 29, 3) := wtX5_houseTold_25.2.2.2.2.2.2.2.2.2.2.2.2.1
theorem dX5_houseTold_48 : decode cX5_houseTold 48 = .ok (.iadd, 1) := wtX5_houseTold_25.2.2.2.2.2.2.2.2.2.2.2.2.2.1
theorem wtX5_houseTold_49 : dwcj cX5_houseTold 49 [(0, .istore_n 2, 1), (1, .iload_n 3, 1), (2, .lload 7, 2), (4, .invokestatic 108, 3), (7, .iadd, 1), (8, .istore_n 3, 1), (9, .iinc 6 1, 3), (12, .goto (-43), 3), (15, .iload_n 1, 1)] := dw_all (l := [61, 29, 22, 7, 184, 0, 108, 96, 62, 132, 6, 1, 167, 255, 213, 27]) (by decide +kernel)
theorem dX5_houseTold_49 : decode cX5_houseTold 49 = .ok (.istore_n 2, 1) := wtX5_houseTold_49.1
theorem dX5_houseTold_50 : decode cX5_houseTold 50 = .ok (.iload_n 3, 1) := wtX5_houseTold_49.2.1
theorem dX5_houseTold_51 : decode cX5_houseTold 51 = .ok (.lload 7, 2) := wtX5_houseTold_49.2.2.1
theorem dX5_houseTold_53 : decode cX5_houseTold 53 = .ok (.invokestatic 108, 3) := wtX5_houseTold_49.2.2.2.1
theorem dX5_houseTold_56 : decode cX5_houseTold 56 = .ok (.iadd, 1) := wtX5_houseTold_49.2.2.2.2.1
theorem dX5_houseTold_57 : decode cX5_houseTold 57 = .ok (.istore_n 3, 1) := wtX5_houseTold_49.2.2.2.2.2.1
theorem dX5_houseTold_58 : decode cX5_houseTold 58 = .ok (.iinc 6 1, 3) := wtX5_houseTold_49.2.2.2.2.2.2.1
theorem dX5_houseTold_61 : decode cX5_houseTold 61 = .ok (.goto (-43), 3) := wtX5_houseTold_49.2.2.2.2.2.2.2.1
theorem dX5_houseTold_64 : decode cX5_houseTold 64 = .ok (.iload_n 1, 1) := wtX5_houseTold_49.2.2.2.2.2.2.2.2.1
theorem dX5_houseTold_65 : decode cX5_houseTold 65 = .ok (.tableswitch 48 0 3 #[31, 36, 41, 46], 31) := by decide +kernel
theorem wtX5_houseTold_96 : dwcj cX5_houseTold 96 [(0, .aload_n 0, 1), (1, .getfield 53, 3), (4, .ireturn, 1), (5, .aload_n 0, 1), (6, .getfield 56, 3), (9, .ireturn, 1), (10, .aload_n 0, 1), (11, .getfield 161, 3), (14, .ireturn, 1), (15, .iload_n 2, 1), (16, .ireturn, 1), (17, .iload_n 3, 1), (18, .ireturn, 1)] := dw_all (l := [42, 180, 0, 53, 172, 42, 180, 0, 56, 172, 42, 180, 0, 161, 172, 28, 172, 29, 172]) (by decide +kernel)
theorem dX5_houseTold_96 : decode cX5_houseTold 96 = .ok (.aload_n 0, 1) := wtX5_houseTold_96.1
theorem dX5_houseTold_97 : decode cX5_houseTold 97 = .ok (.getfield 53, 3) := wtX5_houseTold_96.2.1
theorem dX5_houseTold_100 : decode cX5_houseTold 100 = .ok (.ireturn, 1) := wtX5_houseTold_96.2.2.1
theorem dX5_houseTold_101 : decode cX5_houseTold 101 = .ok (.aload_n 0, 1) := wtX5_houseTold_96.2.2.2.1
theorem dX5_houseTold_102 : decode cX5_houseTold 102 = .ok (.getfield 56, 3) := wtX5_houseTold_96.2.2.2.2.1
theorem dX5_houseTold_105 : decode cX5_houseTold 105 = .ok (.ireturn, 1) := wtX5_houseTold_96.2.2.2.2.2.1
theorem dX5_houseTold_106 : decode cX5_houseTold 106 = .ok (.aload_n 0, 1) := wtX5_houseTold_96.2.2.2.2.2.2.1
theorem dX5_houseTold_107 : decode cX5_houseTold 107 = .ok (.getfield 161, 3) := wtX5_houseTold_96.2.2.2.2.2.2.2.1
theorem dX5_houseTold_110 : decode cX5_houseTold 110 = .ok (.ireturn, 1) := wtX5_houseTold_96.2.2.2.2.2.2.2.2.1
theorem dX5_houseTold_111 : decode cX5_houseTold 111 = .ok (.iload_n 2, 1) := wtX5_houseTold_96.2.2.2.2.2.2.2.2.2.1
theorem dX5_houseTold_112 : decode cX5_houseTold 112 = .ok (.ireturn, 1) := wtX5_houseTold_96.2.2.2.2.2.2.2.2.2.2.1
theorem dX5_houseTold_113 : decode cX5_houseTold 113 = .ok (.iload_n 3, 1) := wtX5_houseTold_96.2.2.2.2.2.2.2.2.2.2.2.1
theorem dX5_houseTold_114 : decode cX5_houseTold 114 = .ok (.ireturn, 1) := wtX5_houseTold_96.2.2.2.2.2.2.2.2.2.2.2.2.1
theorem wtX5_house_0 : dwcj cX5_house 0 [(0, .aload_n 0, 1), (1, .iload_n 1, 1), (2, .iconst 0, 1), (3, .iconst 4, 1), (4, .invokestatic 21, 3), (7, .ifCond .ne 7, 3), (10, .iconst 1, 1), (11, .goto 4, 3), (14, .iconst 0, 1), (15, .iconst 1, 1), (16, .invokevirtual 71, 3), (19, .ifCond .eq 7, 3), (22, .iconst 0, 1), (23, .goto 8, 3)] := dw_all (l := [42, 27, 3, 7, 184, 0, 21, 154, 0, 7, 4, 167, 0, 4, 3, 4, 182, 0, 71, 153, 0, 7, 3, 167, 0, 8]) (by decide +kernel)
theorem dX5_house_0 : decode cX5_house 0 = .ok (.aload_n 0, 1) := wtX5_house_0.1
theorem dX5_house_1 : decode cX5_house 1 = .ok (.iload_n 1, 1) := wtX5_house_0.2.1
theorem dX5_house_2 : decode cX5_house 2 = .ok (.iconst 0, 1) := wtX5_house_0.2.2.1
theorem dX5_house_3 : decode cX5_house 3 = .ok (.iconst 4, 1) := wtX5_house_0.2.2.2.1
theorem dX5_house_4 : decode cX5_house 4 = .ok (.invokestatic 21, 3) := wtX5_house_0.2.2.2.2.1
theorem dX5_house_7 : decode cX5_house 7 = .ok (.ifCond .ne 7, 3) := wtX5_house_0.2.2.2.2.2.1
theorem dX5_house_10 : decode cX5_house 10 = .ok (.iconst 1, 1) := wtX5_house_0.2.2.2.2.2.2.1
theorem dX5_house_11 : decode cX5_house 11 = .ok (.goto 4, 3) := wtX5_house_0.2.2.2.2.2.2.2.1
theorem dX5_house_14 : decode cX5_house 14 = .ok (.iconst 0, 1) := wtX5_house_0.2.2.2.2.2.2.2.2.1
theorem dX5_house_15 : decode cX5_house 15 = .ok (.iconst 1, 1) := wtX5_house_0.2.2.2.2.2.2.2.2.2.1
theorem dX5_house_16 : decode cX5_house 16 = .ok (.invokevirtual 71, 3) := wtX5_house_0.2.2.2.2.2.2.2.2.2.2.1
theorem dX5_house_19 : decode cX5_house 19 = .ok (.ifCond .eq 7, 3) := wtX5_house_0.2.2.2.2.2.2.2.2.2.2.2.1
theorem dX5_house_22 : decode cX5_house 22 = .ok (.iconst 0, 1) := wtX5_house_0.2.2.2.2.2.2.2.2.2.2.2.2.1
theorem dX5_house_23 : decode cX5_house 23 = .ok (.goto 8, 3) := wtX5_house_0.2.2.2.2.2.2.2.2.2.2.2.2.2.1
theorem wtX5_house_26 : dwcj cX5_house 26 [(0, .aload_n 0, 1), (1, .iload_n 1, 1), (2, .invokevirtual 164, 3), (5, .ireturn, 1)] := dw_all (l := [42, 27, 182, 0, 164, 172]) (by decide +kernel)
theorem dX5_house_26 : decode cX5_house 26 = .ok (.aload_n 0, 1) := wtX5_house_26.1
theorem dX5_house_27 : decode cX5_house 27 = .ok (.iload_n 1, 1) := wtX5_house_26.2.1
theorem dX5_house_28 : decode cX5_house 28 = .ok (.invokevirtual 164, 3) := wtX5_house_26.2.2.1
theorem dX5_house_31 : decode cX5_house 31 = .ok (.ireturn, 1) := wtX5_house_26.2.2.2.1
theorem wtX5_knock_0 : dwcj cX5_knock 0 [(0, .aload_n 0, 1), (1, .iconst 0, 1), (2, .putfield 13, 3), (5, .aload_n 0, 1), (6, .dup, 1), (7, .getfield 161, 3), (10, .iconst 1, 1), (11, .iadd, 1), (12, .putfield 161, 3), (15, .aload_n 0, 1), (16, .getfield 161, 3), (19, .ireturn, 1)] := dw_all (l := [42, 3, 181, 0, 13, 42, 89, 180, 0, 161, 4, 96, 181, 0, 161, 42, 180, 0, 161, 172]) (by decide +kernel)
theorem dX5_knock_0 : decode cX5_knock 0 = .ok (.aload_n 0, 1) := wtX5_knock_0.1
theorem dX5_knock_1 : decode cX5_knock 1 = .ok (.iconst 0, 1) := wtX5_knock_0.2.1
theorem dX5_knock_2 : decode cX5_knock 2 = .ok (.putfield 13, 3) := wtX5_knock_0.2.2.1
theorem dX5_knock_5 : decode cX5_knock 5 = .ok (.aload_n 0, 1) := wtX5_knock_0.2.2.2.1
theorem dX5_knock_6 : decode cX5_knock 6 = .ok (.dup, 1) := wtX5_knock_0.2.2.2.2.1
theorem dX5_knock_7 : decode cX5_knock 7 = .ok (.getfield 161, 3) := wtX5_knock_0.2.2.2.2.2.1
theorem dX5_knock_10 : decode cX5_knock 10 = .ok (.iconst 1, 1) := wtX5_knock_0.2.2.2.2.2.2.1
theorem dX5_knock_11 : decode cX5_knock 11 = .ok (.iadd, 1) := wtX5_knock_0.2.2.2.2.2.2.2.1
theorem dX5_knock_12 : decode cX5_knock 12 = .ok (.putfield 161, 3) := wtX5_knock_0.2.2.2.2.2.2.2.2.1
theorem dX5_knock_15 : decode cX5_knock 15 = .ok (.aload_n 0, 1) := wtX5_knock_0.2.2.2.2.2.2.2.2.2.1
theorem dX5_knock_16 : decode cX5_knock 16 = .ok (.getfield 161, 3) := wtX5_knock_0.2.2.2.2.2.2.2.2.2.2.1
theorem dX5_knock_19 : decode cX5_knock 19 = .ok (.ireturn, 1) := wtX5_knock_0.2.2.2.2.2.2.2.2.2.2.2.1
theorem wtX5_isWhole_0 : dwcj cX5_isWhole 0 [(0, .aload_n 0, 1), (1, .getfield 7, 3), (4, .astore_n 1, 1), (5, .aload_n 1, 1), (6, .arraylength, 1), (7, .istore_n 2, 1), (8, .iconst 0, 1), (9, .istore_n 3, 1), (10, .iload_n 3, 1), (11, .iload_n 2, 1), (12, .if_icmp .ge 39, 3), (15, .aload_n 1, 1), (16, .iload_n 3, 1), (17, .laload, 1), (18, .lstore 4, 2), (20, .lload 4, 2), (22, .invokestatic 33, 3)] := dw_all (l := [42, 180, 0, 7, 76, 43, 190, 61, 3, 62, 29, 28, 162, 0, 39, 43, 29, 47, 55, 4, 22, 4, 184, 0, 33]) (by decide +kernel)
theorem dX5_isWhole_0 : decode cX5_isWhole 0 = .ok (.aload_n 0, 1) := wtX5_isWhole_0.1
theorem dX5_isWhole_1 : decode cX5_isWhole 1 = .ok (.getfield 7, 3) := wtX5_isWhole_0.2.1
theorem dX5_isWhole_4 : decode cX5_isWhole 4 = .ok (.astore_n 1, 1) := wtX5_isWhole_0.2.2.1
theorem dX5_isWhole_5 : decode cX5_isWhole 5 = .ok (.aload_n 1, 1) := wtX5_isWhole_0.2.2.2.1
theorem dX5_isWhole_6 : decode cX5_isWhole 6 = .ok (.arraylength, 1) := wtX5_isWhole_0.2.2.2.2.1
theorem dX5_isWhole_7 : decode cX5_isWhole 7 = .ok (.istore_n 2, 1) := wtX5_isWhole_0.2.2.2.2.2.1
theorem dX5_isWhole_8 : decode cX5_isWhole 8 = .ok (.iconst 0, 1) := wtX5_isWhole_0.2.2.2.2.2.2.1
theorem dX5_isWhole_9 : decode cX5_isWhole 9 = .ok (.istore_n 3, 1) := wtX5_isWhole_0.2.2.2.2.2.2.2.1
theorem dX5_isWhole_10 : decode cX5_isWhole 10 = .ok (.iload_n 3, 1) := wtX5_isWhole_0.2.2.2.2.2.2.2.2.1
theorem dX5_isWhole_11 : decode cX5_isWhole 11 = .ok (.iload_n 2, 1) := wtX5_isWhole_0.2.2.2.2.2.2.2.2.2.1
theorem dX5_isWhole_12 : decode cX5_isWhole 12 = .ok (.if_icmp .ge 39, 3) := wtX5_isWhole_0.2.2.2.2.2.2.2.2.2.2.1
theorem dX5_isWhole_15 : decode cX5_isWhole 15 = .ok (.aload_n 1, 1) := wtX5_isWhole_0.2.2.2.2.2.2.2.2.2.2.2.1
theorem dX5_isWhole_16 : decode cX5_isWhole 16 = .ok (.iload_n 3, 1) := wtX5_isWhole_0.2.2.2.2.2.2.2.2.2.2.2.2.1
theorem dX5_isWhole_17 : decode cX5_isWhole 17 = .ok (.laload, 1) := wtX5_isWhole_0.2.2.2.2.2.2.2.2.2.2.2.2.2.1
theorem dX5_isWhole_18 : decode cX5_isWhole 18 = .ok (.lstore 4, 2) := wtX5_isWhole_0.2.2.2.2.2.2.2.2.2.2.2.2.2.2.1
theorem dX5_isWhole_20 : decode cX5_isWhole 20 = .ok (.lload 4, 2) := wtX5_isWhole_0.2.2.2.2.2.2.2.2.2.2.2.2.2.2.2.1
theorem dX5_isWhole_22 : decode cX5_isWhole 22 = .ok (.invokestatic 33, 3) := wtX5_isWhole_0.2.2.2.2.2.2.2.2.2.2.2.2.2.2.2.2.1
theorem wtX5_isWhole_25 : dwcj cX5_isWhole 25 [(0, .bipush 32, 2), (2, .if_icmp .gt 16, 3), (5, .lload 4, 2), (7, .invokestatic 105, 3), (10, .lload 4, 2), (12, .invokestatic 33, 3), (15, .if_icmp .le 5, 3), (18, .iconst 0, 1), (19, .ireturn, 1), (20, .iinc 3 1, 3), (23, .goto (-38), 3)] := dw_all (l := [16, 32, 163, 0, 16, 22, 4, 184, 0, 105, 22, 4, 184, 0, 33, 164, 0, 5, 3, 172, 132, 3, 1, 167, 255, 218]) (by decide +kernel)
theorem dX5_isWhole_25 : decode cX5_isWhole 25 = .ok (.bipush 32, 2) := wtX5_isWhole_25.1
theorem dX5_isWhole_27 : decode cX5_isWhole 27 = .ok (.if_icmp .gt 16, 3) := wtX5_isWhole_25.2.1
theorem dX5_isWhole_30 : decode cX5_isWhole 30 = .ok (.lload 4, 2) := wtX5_isWhole_25.2.2.1
theorem dX5_isWhole_32 : decode cX5_isWhole 32 = .ok (.invokestatic 105, 3) := wtX5_isWhole_25.2.2.2.1
theorem dX5_isWhole_35 : decode cX5_isWhole 35 = .ok (.lload 4, 2) := wtX5_isWhole_25.2.2.2.2.1
theorem dX5_isWhole_37 : decode cX5_isWhole 37 = .ok (.invokestatic 33, 3) := wtX5_isWhole_25.2.2.2.2.2.1
theorem dX5_isWhole_40 : decode cX5_isWhole 40 = .ok (.if_icmp .le 5, 3) := wtX5_isWhole_25.2.2.2.2.2.2.1
theorem dX5_isWhole_43 : decode cX5_isWhole 43 = .ok (.iconst 0, 1) := wtX5_isWhole_25.2.2.2.2.2.2.2.1
theorem dX5_isWhole_44 : decode cX5_isWhole 44 = .ok (.ireturn, 1) := wtX5_isWhole_25.2.2.2.2.2.2.2.2.1
theorem dX5_isWhole_45 : decode cX5_isWhole 45 = .ok (.iinc 3 1, 3) := wtX5_isWhole_25.2.2.2.2.2.2.2.2.2.1
theorem dX5_isWhole_48 : decode cX5_isWhole 48 = .ok (.goto (-38), 3) := wtX5_isWhole_25.2.2.2.2.2.2.2.2.2.2.1
theorem wtX5_isWhole_51 : dwcj cX5_isWhole 51 [(0, .aload_n 0, 1), (1, .getfield 7, 3), (4, .iconst 0, 1), (5, .laload, 1), (6, .aload_n 0, 1), (7, .getfield 7, 3), (10, .iconst 0, 1), (11, .laload, 1), (12, .aload_n 0, 1), (13, .getfield 7, 3), (16, .iconst 1, 1), (17, .laload, 1), (18, .iconst 1, 1), (19, .invokestatic 94, 3), (22, .invokestatic 41, 3)] := dw_all (l := [42, 180, 0, 7, 3, 47, 42, 180, 0, 7, 3, 47, 42, 180, 0, 7, 4, 47, 4, 184, 0, 94, 184, 0, 41]) (by decide +kernel)
theorem dX5_isWhole_51 : decode cX5_isWhole 51 = .ok (.aload_n 0, 1) := wtX5_isWhole_51.1
theorem dX5_isWhole_52 : decode cX5_isWhole 52 = .ok (.getfield 7, 3) := wtX5_isWhole_51.2.1
theorem dX5_isWhole_55 : decode cX5_isWhole 55 = .ok (.iconst 0, 1) := wtX5_isWhole_51.2.2.1
theorem dX5_isWhole_56 : decode cX5_isWhole 56 = .ok (.laload, 1) := wtX5_isWhole_51.2.2.2.1
theorem dX5_isWhole_57 : decode cX5_isWhole 57 = .ok (.aload_n 0, 1) := wtX5_isWhole_51.2.2.2.2.1
theorem dX5_isWhole_58 : decode cX5_isWhole 58 = .ok (.getfield 7, 3) := wtX5_isWhole_51.2.2.2.2.2.1
theorem dX5_isWhole_61 : decode cX5_isWhole 61 = .ok (.iconst 0, 1) := wtX5_isWhole_51.2.2.2.2.2.2.1
theorem dX5_isWhole_62 : decode cX5_isWhole 62 = .ok (.laload, 1) := wtX5_isWhole_51.2.2.2.2.2.2.2.1
theorem dX5_isWhole_63 : decode cX5_isWhole 63 = .ok (.aload_n 0, 1) := wtX5_isWhole_51.2.2.2.2.2.2.2.2.1
theorem dX5_isWhole_64 : decode cX5_isWhole 64 = .ok (.getfield 7, 3) := wtX5_isWhole_51.2.2.2.2.2.2.2.2.2.1
theorem dX5_isWhole_67 : decode cX5_isWhole 67 = .ok (.iconst 1, 1) := wtX5_isWhole_51.2.2.2.2.2.2.2.2.2.2.1
theorem dX5_isWhole_68 : decode cX5_isWhole 68 = .ok (.laload, 1) := wtX5_isWhole_51.2.2.2.2.2.2.2.2.2.2.2.1
theorem dX5_isWhole_69 : decode cX5_isWhole 69 = .ok (.iconst 1, 1) := wtX5_isWhole_51.2.2.2.2.2.2.2.2.2.2.2.2.1
theorem dX5_isWhole_70 : decode cX5_isWhole 70 = .ok (.invokestatic 94, 3) := wtX5_isWhole_51.2.2.2.2.2.2.2.2.2.2.2.2.2.1
theorem dX5_isWhole_73 : decode cX5_isWhole 73 = .ok (.invokestatic 41, 3) := wtX5_isWhole_51.2.2.2.2.2.2.2.2.2.2.2.2.2.2.1
theorem wtX5_isWhole_76 : dwcj cX5_isWhole 76 [(0, .lstore_n 1, 1), (1, .aload_n 0, 1), (2, .getfield 7, 3), (5, .iconst 1, 1), (6, .laload, 1), (7, .aload_n 0, 1), (8, .getfield 7, 3), (11, .iconst 0, 1), (12, .laload, 1), (13, .aload_n 0, 1), (14, .getfield 7, 3), (17, .iconst 1, 1), (18, .laload, 1), (19, .iconst 2, 1), (20, .invokestatic 94, 3), (23, .invokestatic 41, 3)] := dw_all (l := [64, 42, 180, 0, 7, 4, 47, 42, 180, 0, 7, 3, 47, 42, 180, 0, 7, 4, 47, 5, 184, 0, 94, 184, 0, 41]) (by decide +kernel)
theorem dX5_isWhole_76 : decode cX5_isWhole 76 = .ok (.lstore_n 1, 1) := wtX5_isWhole_76.1
theorem dX5_isWhole_77 : decode cX5_isWhole 77 = .ok (.aload_n 0, 1) := wtX5_isWhole_76.2.1
theorem dX5_isWhole_78 : decode cX5_isWhole 78 = .ok (.getfield 7, 3) := wtX5_isWhole_76.2.2.1
theorem dX5_isWhole_81 : decode cX5_isWhole 81 = .ok (.iconst 1, 1) := wtX5_isWhole_76.2.2.2.1
theorem dX5_isWhole_82 : decode cX5_isWhole 82 = .ok (.laload, 1) := wtX5_isWhole_76.2.2.2.2.1
theorem dX5_isWhole_83 : decode cX5_isWhole 83 = .ok (.aload_n 0, 1) := wtX5_isWhole_76.2.2.2.2.2.1
theorem dX5_isWhole_84 : decode cX5_isWhole 84 = .ok (.getfield 7, 3) := wtX5_isWhole_76.2.2.2.2.2.2.1
theorem dX5_isWhole_87 : decode cX5_isWhole 87 = .ok (.iconst 0, 1) := wtX5_isWhole_76.2.2.2.2.2.2.2.1
theorem dX5_isWhole_88 : decode cX5_isWhole 88 = .ok (.laload, 1) := wtX5_isWhole_76.2.2.2.2.2.2.2.2.1
theorem dX5_isWhole_89 : decode cX5_isWhole 89 = .ok (.aload_n 0, 1) := wtX5_isWhole_76.2.2.2.2.2.2.2.2.2.1
theorem dX5_isWhole_90 : decode cX5_isWhole 90 = .ok (.getfield 7, 3) := wtX5_isWhole_76.2.2.2.2.2.2.2.2.2.2.1
theorem dX5_isWhole_93 : decode cX5_isWhole 93 = .ok (.iconst 1, 1) := wtX5_isWhole_76.2.2.2.2.2.2.2.2.2.2.2.1
theorem dX5_isWhole_94 : decode cX5_isWhole 94 = .ok (.laload, 1) := wtX5_isWhole_76.2.2.2.2.2.2.2.2.2.2.2.2.1
theorem dX5_isWhole_95 : decode cX5_isWhole 95 = .ok (.iconst 2, 1) := wtX5_isWhole_76.2.2.2.2.2.2.2.2.2.2.2.2.2.1
theorem dX5_isWhole_96 : decode cX5_isWhole 96 = .ok (.invokestatic 94, 3) := wtX5_isWhole_76.2.2.2.2.2.2.2.2.2.2.2.2.2.2.1
theorem dX5_isWhole_99 : decode cX5_isWhole 99 = .ok (.invokestatic 41, 3) := wtX5_isWhole_76.2.2.2.2.2.2.2.2.2.2.2.2.2.2.2.1
theorem wtX5_isWhole_102 : dwcj cX5_isWhole 102 [(0, .lstore_n 3, 1), (1, .aload_n 0, 1), (2, .getfield 7, 3), (5, .iconst 0, 1), (6, .laload, 1), (7, .aload_n 0, 1), (8, .getfield 7, 3), (11, .iconst 1, 1), (12, .laload, 1), (13, .iconst 0, 1), (14, .invokestatic 94, 3), (17, .lload_n 1, 1), (18, .lload_n 3, 1), (19, .lxor, 1), (20, .lcmp, 1), (21, .ifCond .ne 7, 3)] := dw_all (l := [66, 42, 180, 0, 7, 3, 47, 42, 180, 0, 7, 4, 47, 3, 184, 0, 94, 31, 33, 131, 148, 154, 0, 7]) (by decide +kernel)
theorem dX5_isWhole_102 : decode cX5_isWhole 102 = .ok (.lstore_n 3, 1) := wtX5_isWhole_102.1
theorem dX5_isWhole_103 : decode cX5_isWhole 103 = .ok (.aload_n 0, 1) := wtX5_isWhole_102.2.1
theorem dX5_isWhole_104 : decode cX5_isWhole 104 = .ok (.getfield 7, 3) := wtX5_isWhole_102.2.2.1
theorem dX5_isWhole_107 : decode cX5_isWhole 107 = .ok (.iconst 0, 1) := wtX5_isWhole_102.2.2.2.1
theorem dX5_isWhole_108 : decode cX5_isWhole 108 = .ok (.laload, 1) := wtX5_isWhole_102.2.2.2.2.1
theorem dX5_isWhole_109 : decode cX5_isWhole 109 = .ok (.aload_n 0, 1) := wtX5_isWhole_102.2.2.2.2.2.1
theorem dX5_isWhole_110 : decode cX5_isWhole 110 = .ok (.getfield 7, 3) := wtX5_isWhole_102.2.2.2.2.2.2.1
theorem dX5_isWhole_113 : decode cX5_isWhole 113 = .ok (.iconst 1, 1) := wtX5_isWhole_102.2.2.2.2.2.2.2.1
theorem dX5_isWhole_114 : decode cX5_isWhole 114 = .ok (.laload, 1) := wtX5_isWhole_102.2.2.2.2.2.2.2.2.1
theorem dX5_isWhole_115 : decode cX5_isWhole 115 = .ok (.iconst 0, 1) := wtX5_isWhole_102.2.2.2.2.2.2.2.2.2.1
theorem dX5_isWhole_116 : decode cX5_isWhole 116 = .ok (.invokestatic 94, 3) := wtX5_isWhole_102.2.2.2.2.2.2.2.2.2.2.1
theorem dX5_isWhole_119 : decode cX5_isWhole 119 = .ok (.lload_n 1, 1) := wtX5_isWhole_102.2.2.2.2.2.2.2.2.2.2.2.1
theorem dX5_isWhole_120 : decode cX5_isWhole 120 = .ok (.lload_n 3, 1) := wtX5_isWhole_102.2.2.2.2.2.2.2.2.2.2.2.2.1
theorem dX5_isWhole_121 : decode cX5_isWhole 121 = .ok (.lxor, 1) := wtX5_isWhole_102.2.2.2.2.2.2.2.2.2.2.2.2.2.1
theorem dX5_isWhole_122 : decode cX5_isWhole 122 = .ok (.lcmp, 1) := wtX5_isWhole_102.2.2.2.2.2.2.2.2.2.2.2.2.2.2.1
theorem dX5_isWhole_123 : decode cX5_isWhole 123 = .ok (.ifCond .ne 7, 3) := wtX5_isWhole_102.2.2.2.2.2.2.2.2.2.2.2.2.2.2.2.1
theorem wtX5_isWhole_126 : dwcj cX5_isWhole 126 [(0, .iconst 1, 1), (1, .goto 4, 3), (4, .iconst 0, 1), (5, .ireturn, 1)] := dw_all (l := [4, 167, 0, 4, 3, 172]) (by decide +kernel)
theorem dX5_isWhole_126 : decode cX5_isWhole 126 = .ok (.iconst 1, 1) := wtX5_isWhole_126.1
theorem dX5_isWhole_127 : decode cX5_isWhole 127 = .ok (.goto 4, 3) := wtX5_isWhole_126.2.1
theorem dX5_isWhole_130 : decode cX5_isWhole 130 = .ok (.iconst 0, 1) := wtX5_isWhole_126.2.2.1
theorem dX5_isWhole_131 : decode cX5_isWhole 131 = .ok (.ireturn, 1) := wtX5_isWhole_126.2.2.2.1
theorem wtX5_isSound_0 : dwcj cX5_isSound 0 [(0, .aload_n 0, 1), (1, .iconst 0, 1), (2, .putfield 13, 3), (5, .aload_n 0, 1), (6, .invokevirtual 167, 3), (9, .ireturn, 1)] := dw_all (l := [42, 3, 181, 0, 13, 42, 182, 0, 167, 172]) (by decide +kernel)
theorem dX5_isSound_0 : decode cX5_isSound 0 = .ok (.aload_n 0, 1) := wtX5_isSound_0.1
theorem dX5_isSound_1 : decode cX5_isSound 1 = .ok (.iconst 0, 1) := wtX5_isSound_0.2.1
theorem dX5_isSound_2 : decode cX5_isSound 2 = .ok (.putfield 13, 3) := wtX5_isSound_0.2.2.1
theorem dX5_isSound_5 : decode cX5_isSound 5 = .ok (.aload_n 0, 1) := wtX5_isSound_0.2.2.2.1
theorem dX5_isSound_6 : decode cX5_isSound 6 = .ok (.invokevirtual 167, 3) := wtX5_isSound_0.2.2.2.2.1
theorem dX5_isSound_9 : decode cX5_isSound 9 = .ok (.ireturn, 1) := wtX5_isSound_0.2.2.2.2.2.1
theorem wtX5_add_0 : dwcj cX5_add 0 [(0, .lload_n 0, 1), (1, .ldc2_w 171, 3), (4, .lmul, 1), (5, .lload_n 2, 1), (6, .ladd, 1), (7, .lreturn, 1)] := dw_all (l := [30, 20, 0, 171, 105, 32, 97, 173]) (by decide +kernel)
theorem dX5_add_0 : decode cX5_add 0 = .ok (.lload_n 0, 1) := wtX5_add_0.1
theorem dX5_add_1 : decode cX5_add 1 = .ok (.ldc2_w 171, 3) := wtX5_add_0.2.1
theorem dX5_add_4 : decode cX5_add 4 = .ok (.lmul, 1) := wtX5_add_0.2.2.1
theorem dX5_add_5 : decode cX5_add 5 = .ok (.lload_n 2, 1) := wtX5_add_0.2.2.2.1
theorem dX5_add_6 : decode cX5_add 6 = .ok (.ladd, 1) := wtX5_add_0.2.2.2.2.1
theorem dX5_add_7 : decode cX5_add 7 = .ok (.lreturn, 1) := wtX5_add_0.2.2.2.2.2.1
theorem wtX5_digest_0 : dwcj cX5_digest 0 [(0, .aload_n 0, 1), (1, .iconst 0, 1), (2, .putfield 13, 3), (5, .ldc2_w 173, 3), (8, .lstore_n 1, 1), (9, .iconst 0, 1), (10, .istore_n 3, 1), (11, .iload_n 3, 1), (12, .bipush 6, 2), (14, .if_icmp .ge 79, 3), (17, .lload_n 1, 1), (18, .aload_n 0, 1), (19, .getfield 7, 3), (22, .iload_n 3, 1), (23, .laload, 1)] := dw_all (l := [42, 3, 181, 0, 13, 20, 0, 173, 64, 3, 62, 29, 16, 6, 162, 0, 79, 31, 42, 180, 0, 7, 29, 47]) (by decide +kernel)
theorem dX5_digest_0 : decode cX5_digest 0 = .ok (.aload_n 0, 1) := wtX5_digest_0.1
theorem dX5_digest_1 : decode cX5_digest 1 = .ok (.iconst 0, 1) := wtX5_digest_0.2.1
theorem dX5_digest_2 : decode cX5_digest 2 = .ok (.putfield 13, 3) := wtX5_digest_0.2.2.1
theorem dX5_digest_5 : decode cX5_digest 5 = .ok (.ldc2_w 173, 3) := wtX5_digest_0.2.2.2.1
theorem dX5_digest_8 : decode cX5_digest 8 = .ok (.lstore_n 1, 1) := wtX5_digest_0.2.2.2.2.1
theorem dX5_digest_9 : decode cX5_digest 9 = .ok (.iconst 0, 1) := wtX5_digest_0.2.2.2.2.2.1
theorem dX5_digest_10 : decode cX5_digest 10 = .ok (.istore_n 3, 1) := wtX5_digest_0.2.2.2.2.2.2.1
theorem dX5_digest_11 : decode cX5_digest 11 = .ok (.iload_n 3, 1) := wtX5_digest_0.2.2.2.2.2.2.2.1
theorem dX5_digest_12 : decode cX5_digest 12 = .ok (.bipush 6, 2) := wtX5_digest_0.2.2.2.2.2.2.2.2.1
theorem dX5_digest_14 : decode cX5_digest 14 = .ok (.if_icmp .ge 79, 3) := wtX5_digest_0.2.2.2.2.2.2.2.2.2.1
theorem dX5_digest_17 : decode cX5_digest 17 = .ok (.lload_n 1, 1) := wtX5_digest_0.2.2.2.2.2.2.2.2.2.2.1
theorem dX5_digest_18 : decode cX5_digest 18 = .ok (.aload_n 0, 1) := wtX5_digest_0.2.2.2.2.2.2.2.2.2.2.2.1
theorem dX5_digest_19 : decode cX5_digest 19 = .ok (.getfield 7, 3) := wtX5_digest_0.2.2.2.2.2.2.2.2.2.2.2.2.1
theorem dX5_digest_22 : decode cX5_digest 22 = .ok (.iload_n 3, 1) := wtX5_digest_0.2.2.2.2.2.2.2.2.2.2.2.2.2.1
theorem dX5_digest_23 : decode cX5_digest 23 = .ok (.laload, 1) := wtX5_digest_0.2.2.2.2.2.2.2.2.2.2.2.2.2.2.1
theorem wtX5_digest_24 : dwcj cX5_digest 24 [(0, .l2i, 1), (1, .i2l, 1), (2, .invokestatic 175, 3), (5, .lstore_n 1, 1), (6, .lload_n 1, 1), (7, .aload_n 0, 1), (8, .getfield 7, 3), (11, .iload_n 3, 1), (12, .laload, 1), (13, .invokestatic 33, 3), (16, .i2l, 1), (17, .invokestatic 175, 3), (20, .lstore_n 1, 1), (21, .lload_n 1, 1), (22, .aload_n 0, 1), (23, .getfield 7, 3)] := dw_all (l := [136, 133, 184, 0, 175, 64, 31, 42, 180, 0, 7, 29, 47, 184, 0, 33, 133, 184, 0, 175, 64, 31, 42, 180, 0, 7]) (by decide +kernel)
theorem dX5_digest_24 : decode cX5_digest 24 = .ok (.l2i, 1) := wtX5_digest_24.1
theorem dX5_digest_25 : decode cX5_digest 25 = .ok (.i2l, 1) := wtX5_digest_24.2.1
theorem dX5_digest_26 : decode cX5_digest 26 = .ok (.invokestatic 175, 3) := wtX5_digest_24.2.2.1
theorem dX5_digest_29 : decode cX5_digest 29 = .ok (.lstore_n 1, 1) := wtX5_digest_24.2.2.2.1
theorem dX5_digest_30 : decode cX5_digest 30 = .ok (.lload_n 1, 1) := wtX5_digest_24.2.2.2.2.1
theorem dX5_digest_31 : decode cX5_digest 31 = .ok (.aload_n 0, 1) := wtX5_digest_24.2.2.2.2.2.1
theorem dX5_digest_32 : decode cX5_digest 32 = .ok (.getfield 7, 3) := wtX5_digest_24.2.2.2.2.2.2.1
theorem dX5_digest_35 : decode cX5_digest 35 = .ok (.iload_n 3, 1) := wtX5_digest_24.2.2.2.2.2.2.2.1
theorem dX5_digest_36 : decode cX5_digest 36 = .ok (.laload, 1) := wtX5_digest_24.2.2.2.2.2.2.2.2.1
theorem dX5_digest_37 : decode cX5_digest 37 = .ok (.invokestatic 33, 3) := wtX5_digest_24.2.2.2.2.2.2.2.2.2.1
theorem dX5_digest_40 : decode cX5_digest 40 = .ok (.i2l, 1) := wtX5_digest_24.2.2.2.2.2.2.2.2.2.2.1
theorem dX5_digest_41 : decode cX5_digest 41 = .ok (.invokestatic 175, 3) := wtX5_digest_24.2.2.2.2.2.2.2.2.2.2.2.1
theorem dX5_digest_44 : decode cX5_digest 44 = .ok (.lstore_n 1, 1) := wtX5_digest_24.2.2.2.2.2.2.2.2.2.2.2.2.1
theorem dX5_digest_45 : decode cX5_digest 45 = .ok (.lload_n 1, 1) := wtX5_digest_24.2.2.2.2.2.2.2.2.2.2.2.2.2.1
theorem dX5_digest_46 : decode cX5_digest 46 = .ok (.aload_n 0, 1) := wtX5_digest_24.2.2.2.2.2.2.2.2.2.2.2.2.2.2.1
theorem dX5_digest_47 : decode cX5_digest 47 = .ok (.getfield 7, 3) := wtX5_digest_24.2.2.2.2.2.2.2.2.2.2.2.2.2.2.2.1
theorem wtX5_digest_50 : dwcj cX5_digest 50 [(0, .iload_n 3, 1), (1, .laload, 1), (2, .invokestatic 105, 3), (5, .i2l, 1), (6, .invokestatic 175, 3), (9, .lstore_n 1, 1), (10, .lload_n 1, 1), (11, .aload_n 0, 1), (12, .getfield 7, 3), (15, .iload_n 3, 1), (16, .laload, 1), (17, .invokestatic 108, 3), (20, .i2l, 1), (21, .invokestatic 175, 3)] := dw_all (l := [29, 47, 184, 0, 105, 133, 184, 0, 175, 64, 31, 42, 180, 0, 7, 29, 47, 184, 0, 108, 133, 184, 0, 175]) (by decide +kernel)
theorem dX5_digest_50 : decode cX5_digest 50 = .ok (.iload_n 3, 1) := wtX5_digest_50.1
theorem dX5_digest_51 : decode cX5_digest 51 = .ok (.laload, 1) := wtX5_digest_50.2.1
theorem dX5_digest_52 : decode cX5_digest 52 = .ok (.invokestatic 105, 3) := wtX5_digest_50.2.2.1
theorem dX5_digest_55 : decode cX5_digest 55 = .ok (.i2l, 1) := wtX5_digest_50.2.2.2.1
theorem dX5_digest_56 : decode cX5_digest 56 = .ok (.invokestatic 175, 3) := wtX5_digest_50.2.2.2.2.1
theorem dX5_digest_59 : decode cX5_digest 59 = .ok (.lstore_n 1, 1) := wtX5_digest_50.2.2.2.2.2.1
theorem dX5_digest_60 : decode cX5_digest 60 = .ok (.lload_n 1, 1) := wtX5_digest_50.2.2.2.2.2.2.1
theorem dX5_digest_61 : decode cX5_digest 61 = .ok (.aload_n 0, 1) := wtX5_digest_50.2.2.2.2.2.2.2.1
theorem dX5_digest_62 : decode cX5_digest 62 = .ok (.getfield 7, 3) := wtX5_digest_50.2.2.2.2.2.2.2.2.1
theorem dX5_digest_65 : decode cX5_digest 65 = .ok (.iload_n 3, 1) := wtX5_digest_50.2.2.2.2.2.2.2.2.2.1
theorem dX5_digest_66 : decode cX5_digest 66 = .ok (.laload, 1) := wtX5_digest_50.2.2.2.2.2.2.2.2.2.2.1
theorem dX5_digest_67 : decode cX5_digest 67 = .ok (.invokestatic 108, 3) := wtX5_digest_50.2.2.2.2.2.2.2.2.2.2.2.1
theorem dX5_digest_70 : decode cX5_digest 70 = .ok (.i2l, 1) := wtX5_digest_50.2.2.2.2.2.2.2.2.2.2.2.2.1
theorem dX5_digest_71 : decode cX5_digest 71 = .ok (.invokestatic 175, 3) := wtX5_digest_50.2.2.2.2.2.2.2.2.2.2.2.2.2.1
theorem wtX5_digest_74 : dwcj cX5_digest 74 [(0, .lstore_n 1, 1), (1, .lload_n 1, 1), (2, .aload_n 0, 1), (3, .iload_n 3, 1), (4, .iconst 1, 1), (5, .invokevirtual 157, 3), (8, .i2l, 1), (9, .invokestatic 175, 3), (12, .lstore_n 1, 1), (13, .iinc 3 1, 3), (16, .goto (-79), 3), (19, .iconst 0, 1), (20, .istore_n 3, 1), (21, .iload_n 3, 1), (22, .iconst 5, 1), (23, .if_icmp .ge 23, 3)] := dw_all (l := [64, 31, 42, 29, 4, 182, 0, 157, 133, 184, 0, 175, 64, 132, 3, 1, 167, 255, 177, 3, 62, 29, 8, 162, 0, 23]) (by decide +kernel)
theorem dX5_digest_74 : decode cX5_digest 74 = .ok (.lstore_n 1, 1) := wtX5_digest_74.1
theorem dX5_digest_75 : decode cX5_digest 75 = .ok (.lload_n 1, 1) := wtX5_digest_74.2.1
theorem dX5_digest_76 : decode cX5_digest 76 = .ok (.aload_n 0, 1) := wtX5_digest_74.2.2.1
theorem dX5_digest_77 : decode cX5_digest 77 = .ok (.iload_n 3, 1) := wtX5_digest_74.2.2.2.1
theorem dX5_digest_78 : decode cX5_digest 78 = .ok (.iconst 1, 1) := wtX5_digest_74.2.2.2.2.1
theorem dX5_digest_79 : decode cX5_digest 79 = .ok (.invokevirtual 157, 3) := wtX5_digest_74.2.2.2.2.2.1
theorem dX5_digest_82 : decode cX5_digest 82 = .ok (.i2l, 1) := wtX5_digest_74.2.2.2.2.2.2.1
theorem dX5_digest_83 : decode cX5_digest 83 = .ok (.invokestatic 175, 3) := wtX5_digest_74.2.2.2.2.2.2.2.1
theorem dX5_digest_86 : decode cX5_digest 86 = .ok (.lstore_n 1, 1) := wtX5_digest_74.2.2.2.2.2.2.2.2.1
theorem dX5_digest_87 : decode cX5_digest 87 = .ok (.iinc 3 1, 3) := wtX5_digest_74.2.2.2.2.2.2.2.2.2.1
theorem dX5_digest_90 : decode cX5_digest 90 = .ok (.goto (-79), 3) := wtX5_digest_74.2.2.2.2.2.2.2.2.2.2.1
theorem dX5_digest_93 : decode cX5_digest 93 = .ok (.iconst 0, 1) := wtX5_digest_74.2.2.2.2.2.2.2.2.2.2.2.1
theorem dX5_digest_94 : decode cX5_digest 94 = .ok (.istore_n 3, 1) := wtX5_digest_74.2.2.2.2.2.2.2.2.2.2.2.2.1
theorem dX5_digest_95 : decode cX5_digest 95 = .ok (.iload_n 3, 1) := wtX5_digest_74.2.2.2.2.2.2.2.2.2.2.2.2.2.1
theorem dX5_digest_96 : decode cX5_digest 96 = .ok (.iconst 5, 1) := wtX5_digest_74.2.2.2.2.2.2.2.2.2.2.2.2.2.2.1
theorem dX5_digest_97 : decode cX5_digest 97 = .ok (.if_icmp .ge 23, 3) := wtX5_digest_74.2.2.2.2.2.2.2.2.2.2.2.2.2.2.2.1
theorem wtX5_digest_100 : dwcj cX5_digest 100 [(0, .lload_n 1, 1), (1, .aload_n 0, 1), (2, .iload_n 3, 1), (3, .iload_n 3, 1), (4, .iconst 1, 1), (5, .iadd, 1), (6, .invokevirtual 140, 3), (9, .i2l, 1), (10, .invokestatic 175, 3), (13, .lstore_n 1, 1), (14, .iinc 3 1, 3), (17, .goto (-22), 3), (20, .iconst 0, 1), (21, .istore_n 3, 1), (22, .iload_n 3, 1), (23, .iconst 5, 1)] := dw_all (l := [31, 42, 29, 29, 4, 96, 182, 0, 140, 133, 184, 0, 175, 64, 132, 3, 1, 167, 255, 234, 3, 62, 29, 8]) (by decide +kernel)
theorem dX5_digest_100 : decode cX5_digest 100 = .ok (.lload_n 1, 1) := wtX5_digest_100.1
theorem dX5_digest_101 : decode cX5_digest 101 = .ok (.aload_n 0, 1) := wtX5_digest_100.2.1
theorem dX5_digest_102 : decode cX5_digest 102 = .ok (.iload_n 3, 1) := wtX5_digest_100.2.2.1
theorem dX5_digest_103 : decode cX5_digest 103 = .ok (.iload_n 3, 1) := wtX5_digest_100.2.2.2.1
theorem dX5_digest_104 : decode cX5_digest 104 = .ok (.iconst 1, 1) := wtX5_digest_100.2.2.2.2.1
theorem dX5_digest_105 : decode cX5_digest 105 = .ok (.iadd, 1) := wtX5_digest_100.2.2.2.2.2.1
theorem dX5_digest_106 : decode cX5_digest 106 = .ok (.invokevirtual 140, 3) := wtX5_digest_100.2.2.2.2.2.2.1
theorem dX5_digest_109 : decode cX5_digest 109 = .ok (.i2l, 1) := wtX5_digest_100.2.2.2.2.2.2.2.1
theorem dX5_digest_110 : decode cX5_digest 110 = .ok (.invokestatic 175, 3) := wtX5_digest_100.2.2.2.2.2.2.2.2.1
theorem dX5_digest_113 : decode cX5_digest 113 = .ok (.lstore_n 1, 1) := wtX5_digest_100.2.2.2.2.2.2.2.2.2.1
theorem dX5_digest_114 : decode cX5_digest 114 = .ok (.iinc 3 1, 3) := wtX5_digest_100.2.2.2.2.2.2.2.2.2.2.1
theorem dX5_digest_117 : decode cX5_digest 117 = .ok (.goto (-22), 3) := wtX5_digest_100.2.2.2.2.2.2.2.2.2.2.2.1
theorem dX5_digest_120 : decode cX5_digest 120 = .ok (.iconst 0, 1) := wtX5_digest_100.2.2.2.2.2.2.2.2.2.2.2.2.1
theorem dX5_digest_121 : decode cX5_digest 121 = .ok (.istore_n 3, 1) := wtX5_digest_100.2.2.2.2.2.2.2.2.2.2.2.2.2.1
theorem dX5_digest_122 : decode cX5_digest 122 = .ok (.iload_n 3, 1) := wtX5_digest_100.2.2.2.2.2.2.2.2.2.2.2.2.2.2.1
theorem dX5_digest_123 : decode cX5_digest 123 = .ok (.iconst 5, 1) := wtX5_digest_100.2.2.2.2.2.2.2.2.2.2.2.2.2.2.2.1
theorem wtX5_digest_124 : dwcj cX5_digest 124 [(0, .if_icmp .ge 20, 3), (3, .lload_n 1, 1), (4, .aload_n 0, 1), (5, .iload_n 3, 1), (6, .invokevirtual 164, 3), (9, .i2l, 1), (10, .invokestatic 175, 3), (13, .lstore_n 1, 1), (14, .iinc 3 1, 3), (17, .goto (-19), 3), (20, .lload_n 1, 1), (21, .aload_n 0, 1), (22, .invokevirtual 167, 3)] := dw_all (l := [162, 0, 20, 31, 42, 29, 182, 0, 164, 133, 184, 0, 175, 64, 132, 3, 1, 167, 255, 237, 31, 42, 182, 0, 167]) (by decide +kernel)
theorem dX5_digest_124 : decode cX5_digest 124 = .ok (.if_icmp .ge 20, 3) := wtX5_digest_124.1
theorem dX5_digest_127 : decode cX5_digest 127 = .ok (.lload_n 1, 1) := wtX5_digest_124.2.1
theorem dX5_digest_128 : decode cX5_digest 128 = .ok (.aload_n 0, 1) := wtX5_digest_124.2.2.1
theorem dX5_digest_129 : decode cX5_digest 129 = .ok (.iload_n 3, 1) := wtX5_digest_124.2.2.2.1
theorem dX5_digest_130 : decode cX5_digest 130 = .ok (.invokevirtual 164, 3) := wtX5_digest_124.2.2.2.2.1
theorem dX5_digest_133 : decode cX5_digest 133 = .ok (.i2l, 1) := wtX5_digest_124.2.2.2.2.2.1
theorem dX5_digest_134 : decode cX5_digest 134 = .ok (.invokestatic 175, 3) := wtX5_digest_124.2.2.2.2.2.2.1
theorem dX5_digest_137 : decode cX5_digest 137 = .ok (.lstore_n 1, 1) := wtX5_digest_124.2.2.2.2.2.2.2.1
theorem dX5_digest_138 : decode cX5_digest 138 = .ok (.iinc 3 1, 3) := wtX5_digest_124.2.2.2.2.2.2.2.2.1
theorem dX5_digest_141 : decode cX5_digest 141 = .ok (.goto (-19), 3) := wtX5_digest_124.2.2.2.2.2.2.2.2.2.1
theorem dX5_digest_144 : decode cX5_digest 144 = .ok (.lload_n 1, 1) := wtX5_digest_124.2.2.2.2.2.2.2.2.2.2.1
theorem dX5_digest_145 : decode cX5_digest 145 = .ok (.aload_n 0, 1) := wtX5_digest_124.2.2.2.2.2.2.2.2.2.2.2.1
theorem dX5_digest_146 : decode cX5_digest 146 = .ok (.invokevirtual 167, 3) := wtX5_digest_124.2.2.2.2.2.2.2.2.2.2.2.2.1
theorem wtX5_digest_149 : dwcj cX5_digest 149 [(0, .invokestatic 29, 3), (3, .i2l, 1), (4, .invokestatic 175, 3), (7, .lreturn, 1)] := dw_all (l := [184, 0, 29, 133, 184, 0, 175, 173]) (by decide +kernel)
theorem dX5_digest_149 : decode cX5_digest 149 = .ok (.invokestatic 29, 3) := wtX5_digest_149.1
theorem dX5_digest_152 : decode cX5_digest 152 = .ok (.i2l, 1) := wtX5_digest_149.2.1
theorem dX5_digest_153 : decode cX5_digest 153 = .ok (.invokestatic 175, 3) := wtX5_digest_149.2.2.1
theorem dX5_digest_156 : decode cX5_digest 156 = .ok (.lreturn, 1) := wtX5_digest_149.2.2.2.1
theorem wtJ5_init_d00df_0 : dwcj cJ5_init_d00df 0 [(0, .aload_n 0, 1), (1, .invokespecial 3, 3), (4, .getstatic 18, 3), (7, .ifCond .eq 18, 3), (10, .aload_n 0, 1), (11, .iload_n 1, 1)] := dw_all (l := [42, 183, 0, 3, 178, 0, 18, 153, 0, 18, 42, 27]) (by decide +kernel)
theorem dJ5_init_d00df_0 : decode cJ5_init_d00df 0 = .ok (.aload_n 0, 1) := wtJ5_init_d00df_0.1
theorem dJ5_init_d00df_1 : decode cJ5_init_d00df 1 = .ok (.invokespecial 3, 3) := wtJ5_init_d00df_0.2.1
theorem dJ5_init_d00df_4 : decode cJ5_init_d00df 4 = .ok (.getstatic 18, 3) := wtJ5_init_d00df_0.2.2.1
theorem dJ5_init_d00df_7 : decode cJ5_init_d00df 7 = .ok (.ifCond .eq 18, 3) := wtJ5_init_d00df_0.2.2.2.1
theorem dJ5_init_d00df_10 : decode cJ5_init_d00df 10 = .ok (.aload_n 0, 1) := wtJ5_init_d00df_0.2.2.2.2.1
theorem dJ5_init_d00df_11 : decode cJ5_init_d00df 11 = .ok (.iload_n 1, 1) := wtJ5_init_d00df_0.2.2.2.2.2.1
theorem dJ5_init_d00df_12 : decode cJ5_init_d00df 12 = .ok (.newarray .byte, 2) := by decide +kernel
theorem wtJ5_init_d00df_14 : dwcj cJ5_init_d00df 14 [(0, .putfield 15, 3), (3, .aload_n 0, 1), (4, .iconst 0, 1), (5, .putfield 22, 3), (8, .goto 16, 3), (11, .aload_n 0, 1), (12, .iload_n 1, 1), (13, .invokestatic 26, 3), (16, .putfield 15, 3), (19, .aload_n 0, 1), (20, .iconst 1, 1), (21, .putfield 22, 3)] := dw_all (l := [181, 0, 15, 42, 3, 181, 0, 22, 167, 0, 16, 42, 27, 184, 0, 26, 181, 0, 15, 42, 4, 181, 0, 22]) (by decide +kernel)
theorem dJ5_init_d00df_14 : decode cJ5_init_d00df 14 = .ok (.putfield 15, 3) := wtJ5_init_d00df_14.1
theorem dJ5_init_d00df_17 : decode cJ5_init_d00df 17 = .ok (.aload_n 0, 1) := wtJ5_init_d00df_14.2.1
theorem dJ5_init_d00df_18 : decode cJ5_init_d00df 18 = .ok (.iconst 0, 1) := wtJ5_init_d00df_14.2.2.1
theorem dJ5_init_d00df_19 : decode cJ5_init_d00df 19 = .ok (.putfield 22, 3) := wtJ5_init_d00df_14.2.2.2.1
theorem dJ5_init_d00df_22 : decode cJ5_init_d00df 22 = .ok (.goto 16, 3) := wtJ5_init_d00df_14.2.2.2.2.1
theorem dJ5_init_d00df_25 : decode cJ5_init_d00df 25 = .ok (.aload_n 0, 1) := wtJ5_init_d00df_14.2.2.2.2.2.1
theorem dJ5_init_d00df_26 : decode cJ5_init_d00df 26 = .ok (.iload_n 1, 1) := wtJ5_init_d00df_14.2.2.2.2.2.2.1
theorem dJ5_init_d00df_27 : decode cJ5_init_d00df 27 = .ok (.invokestatic 26, 3) := wtJ5_init_d00df_14.2.2.2.2.2.2.2.1
theorem dJ5_init_d00df_30 : decode cJ5_init_d00df 30 = .ok (.putfield 15, 3) := wtJ5_init_d00df_14.2.2.2.2.2.2.2.2.1
theorem dJ5_init_d00df_33 : decode cJ5_init_d00df 33 = .ok (.aload_n 0, 1) := wtJ5_init_d00df_14.2.2.2.2.2.2.2.2.2.1
theorem dJ5_init_d00df_34 : decode cJ5_init_d00df 34 = .ok (.iconst 1, 1) := wtJ5_init_d00df_14.2.2.2.2.2.2.2.2.2.2.1
theorem dJ5_init_d00df_35 : decode cJ5_init_d00df 35 = .ok (.putfield 22, 3) := wtJ5_init_d00df_14.2.2.2.2.2.2.2.2.2.2.2.1
theorem wtJ5_init_d00df_38 : dwcj cJ5_init_d00df 38 [(0, .return_, 1)] := dw_all (l := [177]) (by decide +kernel)
theorem dJ5_init_d00df_38 : decode cJ5_init_d00df 38 = .ok (.return_, 1) := wtJ5_init_d00df_38.1
theorem wtJ5_length_8abf5_0 : dwcj cJ5_length_8abf5 0 [(0, .aload_n 0, 1), (1, .getfield 79, 3), (4, .ireturn, 1)] := dw_all (l := [42, 180, 0, 79, 172]) (by decide +kernel)
theorem dJ5_length_8abf5_0 : decode cJ5_length_8abf5 0 = .ok (.aload_n 0, 1) := wtJ5_length_8abf5_0.1
theorem dJ5_length_8abf5_1 : decode cJ5_length_8abf5 1 = .ok (.getfield 79, 3) := wtJ5_length_8abf5_0.2.1
theorem dJ5_length_8abf5_4 : decode cJ5_length_8abf5 4 = .ok (.ireturn, 1) := wtJ5_length_8abf5_0.2.2.1
theorem wtJ5_ensureCapacityInternal_d00df_0 : dwcj cJ5_ensureCapacityInternal_d00df 0 [(0, .aload_n 0, 1), (1, .getfield 15, 3), (4, .arraylength, 1), (5, .aload_n 0, 1), (6, .getfield 22, 3), (9, .ishr, 1), (10, .istore_n 2, 1), (11, .iload_n 1, 1), (12, .iload_n 2, 1), (13, .isub, 1), (14, .ifCond .le 24, 3), (17, .aload_n 0, 1), (18, .aload_n 0, 1), (19, .getfield 15, 3), (22, .aload_n 0, 1), (23, .iload_n 1, 1)] := dw_all (l := [42, 180, 0, 15, 190, 42, 180, 0, 22, 122, 61, 27, 28, 100, 158, 0, 24, 42, 42, 180, 0, 15, 42, 27]) (by decide +kernel)
theorem dJ5_ensureCapacityInternal_d00df_0 : decode cJ5_ensureCapacityInternal_d00df 0 = .ok (.aload_n 0, 1) := wtJ5_ensureCapacityInternal_d00df_0.1
theorem dJ5_ensureCapacityInternal_d00df_1 : decode cJ5_ensureCapacityInternal_d00df 1 = .ok (.getfield 15, 3) := wtJ5_ensureCapacityInternal_d00df_0.2.1
theorem dJ5_ensureCapacityInternal_d00df_4 : decode cJ5_ensureCapacityInternal_d00df 4 = .ok (.arraylength, 1) := wtJ5_ensureCapacityInternal_d00df_0.2.2.1
theorem dJ5_ensureCapacityInternal_d00df_5 : decode cJ5_ensureCapacityInternal_d00df 5 = .ok (.aload_n 0, 1) := wtJ5_ensureCapacityInternal_d00df_0.2.2.2.1
theorem dJ5_ensureCapacityInternal_d00df_6 : decode cJ5_ensureCapacityInternal_d00df 6 = .ok (.getfield 22, 3) := wtJ5_ensureCapacityInternal_d00df_0.2.2.2.2.1
theorem dJ5_ensureCapacityInternal_d00df_9 : decode cJ5_ensureCapacityInternal_d00df 9 = .ok (.ishr, 1) := wtJ5_ensureCapacityInternal_d00df_0.2.2.2.2.2.1
theorem dJ5_ensureCapacityInternal_d00df_10 : decode cJ5_ensureCapacityInternal_d00df 10 = .ok (.istore_n 2, 1) := wtJ5_ensureCapacityInternal_d00df_0.2.2.2.2.2.2.1
theorem dJ5_ensureCapacityInternal_d00df_11 : decode cJ5_ensureCapacityInternal_d00df 11 = .ok (.iload_n 1, 1) := wtJ5_ensureCapacityInternal_d00df_0.2.2.2.2.2.2.2.1
theorem dJ5_ensureCapacityInternal_d00df_12 : decode cJ5_ensureCapacityInternal_d00df 12 = .ok (.iload_n 2, 1) := wtJ5_ensureCapacityInternal_d00df_0.2.2.2.2.2.2.2.2.1
theorem dJ5_ensureCapacityInternal_d00df_13 : decode cJ5_ensureCapacityInternal_d00df 13 = .ok (.isub, 1) := wtJ5_ensureCapacityInternal_d00df_0.2.2.2.2.2.2.2.2.2.1
theorem dJ5_ensureCapacityInternal_d00df_14 : decode cJ5_ensureCapacityInternal_d00df 14 = .ok (.ifCond .le 24, 3) := wtJ5_ensureCapacityInternal_d00df_0.2.2.2.2.2.2.2.2.2.2.1
theorem dJ5_ensureCapacityInternal_d00df_17 : decode cJ5_ensureCapacityInternal_d00df 17 = .ok (.aload_n 0, 1) := wtJ5_ensureCapacityInternal_d00df_0.2.2.2.2.2.2.2.2.2.2.2.1
theorem dJ5_ensureCapacityInternal_d00df_18 : decode cJ5_ensureCapacityInternal_d00df 18 = .ok (.aload_n 0, 1) := wtJ5_ensureCapacityInternal_d00df_0.2.2.2.2.2.2.2.2.2.2.2.2.1
theorem dJ5_ensureCapacityInternal_d00df_19 : decode cJ5_ensureCapacityInternal_d00df 19 = .ok (.getfield 15, 3) := wtJ5_ensureCapacityInternal_d00df_0.2.2.2.2.2.2.2.2.2.2.2.2.2.1
theorem dJ5_ensureCapacityInternal_d00df_22 : decode cJ5_ensureCapacityInternal_d00df 22 = .ok (.aload_n 0, 1) := wtJ5_ensureCapacityInternal_d00df_0.2.2.2.2.2.2.2.2.2.2.2.2.2.2.1
theorem dJ5_ensureCapacityInternal_d00df_23 : decode cJ5_ensureCapacityInternal_d00df 23 = .ok (.iload_n 1, 1) := wtJ5_ensureCapacityInternal_d00df_0.2.2.2.2.2.2.2.2.2.2.2.2.2.2.2.1
theorem wtJ5_ensureCapacityInternal_d00df_24 : dwcj cJ5_ensureCapacityInternal_d00df 24 [(0, .invokevirtual 104, 3), (3, .aload_n 0, 1), (4, .getfield 22, 3), (7, .ishl, 1), (8, .invokestatic 108, 3), (11, .putfield 15, 3), (14, .return_, 1)] := dw_all (l := [182, 0, 104, 42, 180, 0, 22, 120, 184, 0, 108, 181, 0, 15, 177]) (by decide +kernel)
theorem dJ5_ensureCapacityInternal_d00df_24 : decode cJ5_ensureCapacityInternal_d00df 24 = .ok (.invokevirtual 104, 3) := wtJ5_ensureCapacityInternal_d00df_24.1
theorem dJ5_ensureCapacityInternal_d00df_27 : decode cJ5_ensureCapacityInternal_d00df 27 = .ok (.aload_n 0, 1) := wtJ5_ensureCapacityInternal_d00df_24.2.1
theorem dJ5_ensureCapacityInternal_d00df_28 : decode cJ5_ensureCapacityInternal_d00df 28 = .ok (.getfield 22, 3) := wtJ5_ensureCapacityInternal_d00df_24.2.2.1
theorem dJ5_ensureCapacityInternal_d00df_31 : decode cJ5_ensureCapacityInternal_d00df 31 = .ok (.ishl, 1) := wtJ5_ensureCapacityInternal_d00df_24.2.2.2.1
theorem dJ5_ensureCapacityInternal_d00df_32 : decode cJ5_ensureCapacityInternal_d00df 32 = .ok (.invokestatic 108, 3) := wtJ5_ensureCapacityInternal_d00df_24.2.2.2.2.1
theorem dJ5_ensureCapacityInternal_d00df_35 : decode cJ5_ensureCapacityInternal_d00df 35 = .ok (.putfield 15, 3) := wtJ5_ensureCapacityInternal_d00df_24.2.2.2.2.2.1
theorem dJ5_ensureCapacityInternal_d00df_38 : decode cJ5_ensureCapacityInternal_d00df 38 = .ok (.return_, 1) := wtJ5_ensureCapacityInternal_d00df_24.2.2.2.2.2.2.1
theorem wtJ5_newCapacity_0f7a4_0 : dwcj cJ5_newCapacity_0f7a4 0 [(0, .aload_n 0, 1), (1, .getfield 15, 3), (4, .arraylength, 1), (5, .istore_n 2, 1), (6, .iload_n 1, 1), (7, .aload_n 0, 1), (8, .getfield 22, 3), (11, .ishl, 1), (12, .istore_n 3, 1), (13, .iload_n 3, 1), (14, .iload_n 2, 1), (15, .isub, 1), (16, .istore 4, 2), (18, .iload_n 2, 1), (19, .iload 4, 2), (21, .iload_n 2, 1), (22, .iconst 2, 1), (23, .aload_n 0, 1)] := dw_all (l := [42, 180, 0, 15, 190, 61, 27, 42, 180, 0, 22, 120, 62, 29, 28, 100, 54, 4, 28, 21, 4, 28, 5, 42]) (by decide +kernel)
theorem dJ5_newCapacity_0f7a4_0 : decode cJ5_newCapacity_0f7a4 0 = .ok (.aload_n 0, 1) := wtJ5_newCapacity_0f7a4_0.1
theorem dJ5_newCapacity_0f7a4_1 : decode cJ5_newCapacity_0f7a4 1 = .ok (.getfield 15, 3) := wtJ5_newCapacity_0f7a4_0.2.1
theorem dJ5_newCapacity_0f7a4_4 : decode cJ5_newCapacity_0f7a4 4 = .ok (.arraylength, 1) := wtJ5_newCapacity_0f7a4_0.2.2.1
theorem dJ5_newCapacity_0f7a4_5 : decode cJ5_newCapacity_0f7a4 5 = .ok (.istore_n 2, 1) := wtJ5_newCapacity_0f7a4_0.2.2.2.1
theorem dJ5_newCapacity_0f7a4_6 : decode cJ5_newCapacity_0f7a4 6 = .ok (.iload_n 1, 1) := wtJ5_newCapacity_0f7a4_0.2.2.2.2.1
theorem dJ5_newCapacity_0f7a4_7 : decode cJ5_newCapacity_0f7a4 7 = .ok (.aload_n 0, 1) := wtJ5_newCapacity_0f7a4_0.2.2.2.2.2.1
theorem dJ5_newCapacity_0f7a4_8 : decode cJ5_newCapacity_0f7a4 8 = .ok (.getfield 22, 3) := wtJ5_newCapacity_0f7a4_0.2.2.2.2.2.2.1
theorem dJ5_newCapacity_0f7a4_11 : decode cJ5_newCapacity_0f7a4 11 = .ok (.ishl, 1) := wtJ5_newCapacity_0f7a4_0.2.2.2.2.2.2.2.1
theorem dJ5_newCapacity_0f7a4_12 : decode cJ5_newCapacity_0f7a4 12 = .ok (.istore_n 3, 1) := wtJ5_newCapacity_0f7a4_0.2.2.2.2.2.2.2.2.1
theorem dJ5_newCapacity_0f7a4_13 : decode cJ5_newCapacity_0f7a4 13 = .ok (.iload_n 3, 1) := wtJ5_newCapacity_0f7a4_0.2.2.2.2.2.2.2.2.2.1
theorem dJ5_newCapacity_0f7a4_14 : decode cJ5_newCapacity_0f7a4 14 = .ok (.iload_n 2, 1) := wtJ5_newCapacity_0f7a4_0.2.2.2.2.2.2.2.2.2.2.1
theorem dJ5_newCapacity_0f7a4_15 : decode cJ5_newCapacity_0f7a4 15 = .ok (.isub, 1) := wtJ5_newCapacity_0f7a4_0.2.2.2.2.2.2.2.2.2.2.2.1
theorem dJ5_newCapacity_0f7a4_16 : decode cJ5_newCapacity_0f7a4 16 = .ok (.istore 4, 2) := wtJ5_newCapacity_0f7a4_0.2.2.2.2.2.2.2.2.2.2.2.2.1
theorem dJ5_newCapacity_0f7a4_18 : decode cJ5_newCapacity_0f7a4 18 = .ok (.iload_n 2, 1) := wtJ5_newCapacity_0f7a4_0.2.2.2.2.2.2.2.2.2.2.2.2.2.1
theorem dJ5_newCapacity_0f7a4_19 : decode cJ5_newCapacity_0f7a4 19 = .ok (.iload 4, 2) := wtJ5_newCapacity_0f7a4_0.2.2.2.2.2.2.2.2.2.2.2.2.2.2.1
theorem dJ5_newCapacity_0f7a4_21 : decode cJ5_newCapacity_0f7a4 21 = .ok (.iload_n 2, 1) := wtJ5_newCapacity_0f7a4_0.2.2.2.2.2.2.2.2.2.2.2.2.2.2.2.1
theorem dJ5_newCapacity_0f7a4_22 : decode cJ5_newCapacity_0f7a4 22 = .ok (.iconst 2, 1) := wtJ5_newCapacity_0f7a4_0.2.2.2.2.2.2.2.2.2.2.2.2.2.2.2.2.1
theorem dJ5_newCapacity_0f7a4_23 : decode cJ5_newCapacity_0f7a4 23 = .ok (.aload_n 0, 1) := wtJ5_newCapacity_0f7a4_0.2.2.2.2.2.2.2.2.2.2.2.2.2.2.2.2.2.1
theorem wtJ5_newCapacity_0f7a4_24 : dwcj cJ5_newCapacity_0f7a4 24 [(0, .getfield 22, 3), (3, .ishl, 1), (4, .iadd, 1), (5, .invokestatic 114, 3), (8, .istore 5, 2), (10, .iload 5, 2), (12, .ldc 39, 2), (14, .if_icmp .ne 13, 3), (17, .new 120, 3), (20, .dup, 1), (21, .ldc 122, 2), (23, .invokespecial 124, 3)] := dw_all (l := [180, 0, 22, 120, 96, 184, 0, 114, 54, 5, 21, 5, 18, 39, 160, 0, 13, 187, 0, 120, 89, 18, 122, 183, 0, 124]) (by decide +kernel)
theorem dJ5_newCapacity_0f7a4_24 : decode cJ5_newCapacity_0f7a4 24 = .ok (.getfield 22, 3) := wtJ5_newCapacity_0f7a4_24.1
theorem dJ5_newCapacity_0f7a4_27 : decode cJ5_newCapacity_0f7a4 27 = .ok (.ishl, 1) := wtJ5_newCapacity_0f7a4_24.2.1
theorem dJ5_newCapacity_0f7a4_28 : decode cJ5_newCapacity_0f7a4 28 = .ok (.iadd, 1) := wtJ5_newCapacity_0f7a4_24.2.2.1
theorem dJ5_newCapacity_0f7a4_29 : decode cJ5_newCapacity_0f7a4 29 = .ok (.invokestatic 114, 3) := wtJ5_newCapacity_0f7a4_24.2.2.2.1
theorem dJ5_newCapacity_0f7a4_32 : decode cJ5_newCapacity_0f7a4 32 = .ok (.istore 5, 2) := wtJ5_newCapacity_0f7a4_24.2.2.2.2.1
theorem dJ5_newCapacity_0f7a4_34 : decode cJ5_newCapacity_0f7a4 34 = .ok (.iload 5, 2) := wtJ5_newCapacity_0f7a4_24.2.2.2.2.2.1
theorem dJ5_newCapacity_0f7a4_36 : decode cJ5_newCapacity_0f7a4 36 = .ok (.ldc 39, 2) := wtJ5_newCapacity_0f7a4_24.2.2.2.2.2.2.1
theorem dJ5_newCapacity_0f7a4_38 : decode cJ5_newCapacity_0f7a4 38 = .ok (.if_icmp .ne 13, 3) := wtJ5_newCapacity_0f7a4_24.2.2.2.2.2.2.2.1
theorem dJ5_newCapacity_0f7a4_41 : decode cJ5_newCapacity_0f7a4 41 = .ok (.new 120, 3) := wtJ5_newCapacity_0f7a4_24.2.2.2.2.2.2.2.2.1
theorem dJ5_newCapacity_0f7a4_44 : decode cJ5_newCapacity_0f7a4 44 = .ok (.dup, 1) := wtJ5_newCapacity_0f7a4_24.2.2.2.2.2.2.2.2.2.1
theorem dJ5_newCapacity_0f7a4_45 : decode cJ5_newCapacity_0f7a4 45 = .ok (.ldc 122, 2) := wtJ5_newCapacity_0f7a4_24.2.2.2.2.2.2.2.2.2.2.1
theorem dJ5_newCapacity_0f7a4_47 : decode cJ5_newCapacity_0f7a4 47 = .ok (.invokespecial 124, 3) := wtJ5_newCapacity_0f7a4_24.2.2.2.2.2.2.2.2.2.2.2.1
theorem wtJ5_newCapacity_0f7a4_50 : dwcj cJ5_newCapacity_0f7a4 50 [(0, .athrow, 1), (1, .iload 5, 2), (3, .aload_n 0, 1), (4, .getfield 22, 3), (7, .ishr, 1), (8, .ireturn, 1)] := dw_all (l := [191, 21, 5, 42, 180, 0, 22, 122, 172]) (by decide +kernel)
theorem dJ5_newCapacity_0f7a4_50 : decode cJ5_newCapacity_0f7a4 50 = .ok (.athrow, 1) := wtJ5_newCapacity_0f7a4_50.1
theorem dJ5_newCapacity_0f7a4_51 : decode cJ5_newCapacity_0f7a4 51 = .ok (.iload 5, 2) := wtJ5_newCapacity_0f7a4_50.2.1
theorem dJ5_newCapacity_0f7a4_53 : decode cJ5_newCapacity_0f7a4 53 = .ok (.aload_n 0, 1) := wtJ5_newCapacity_0f7a4_50.2.2.1
theorem dJ5_newCapacity_0f7a4_54 : decode cJ5_newCapacity_0f7a4 54 = .ok (.getfield 22, 3) := wtJ5_newCapacity_0f7a4_50.2.2.2.1
theorem dJ5_newCapacity_0f7a4_57 : decode cJ5_newCapacity_0f7a4 57 = .ok (.ishr, 1) := wtJ5_newCapacity_0f7a4_50.2.2.2.2.1
theorem dJ5_newCapacity_0f7a4_58 : decode cJ5_newCapacity_0f7a4 58 = .ok (.ireturn, 1) := wtJ5_newCapacity_0f7a4_50.2.2.2.2.2.1
theorem wtJ5_inflate_da8c8_0 : dwcj cJ5_inflate_da8c8 0 [(0, .aload_n 0, 1), (1, .invokevirtual 83, 3), (4, .ifCond .ne 4, 3), (7, .return_, 1), (8, .aload_n 0, 1), (9, .getfield 15, 3), (12, .arraylength, 1), (13, .invokestatic 26, 3), (16, .astore_n 1, 1), (17, .aload_n 0, 1), (18, .getfield 15, 3), (21, .iconst 0, 1), (22, .aload_n 1, 1), (23, .iconst 0, 1)] := dw_all (l := [42, 182, 0, 83, 154, 0, 4, 177, 42, 180, 0, 15, 190, 184, 0, 26, 76, 42, 180, 0, 15, 3, 43, 3]) (by decide +kernel)
theorem dJ5_inflate_da8c8_0 : decode cJ5_inflate_da8c8 0 = .ok (.aload_n 0, 1) := wtJ5_inflate_da8c8_0.1
theorem dJ5_inflate_da8c8_1 : decode cJ5_inflate_da8c8 1 = .ok (.invokevirtual 83, 3) := wtJ5_inflate_da8c8_0.2.1
theorem dJ5_inflate_da8c8_4 : decode cJ5_inflate_da8c8 4 = .ok (.ifCond .ne 4, 3) := wtJ5_inflate_da8c8_0.2.2.1
theorem dJ5_inflate_da8c8_7 : decode cJ5_inflate_da8c8 7 = .ok (.return_, 1) := wtJ5_inflate_da8c8_0.2.2.2.1
theorem dJ5_inflate_da8c8_8 : decode cJ5_inflate_da8c8 8 = .ok (.aload_n 0, 1) := wtJ5_inflate_da8c8_0.2.2.2.2.1
theorem dJ5_inflate_da8c8_9 : decode cJ5_inflate_da8c8 9 = .ok (.getfield 15, 3) := wtJ5_inflate_da8c8_0.2.2.2.2.2.1
theorem dJ5_inflate_da8c8_12 : decode cJ5_inflate_da8c8 12 = .ok (.arraylength, 1) := wtJ5_inflate_da8c8_0.2.2.2.2.2.2.1
theorem dJ5_inflate_da8c8_13 : decode cJ5_inflate_da8c8 13 = .ok (.invokestatic 26, 3) := wtJ5_inflate_da8c8_0.2.2.2.2.2.2.2.1
theorem dJ5_inflate_da8c8_16 : decode cJ5_inflate_da8c8 16 = .ok (.astore_n 1, 1) := wtJ5_inflate_da8c8_0.2.2.2.2.2.2.2.2.1
theorem dJ5_inflate_da8c8_17 : decode cJ5_inflate_da8c8 17 = .ok (.aload_n 0, 1) := wtJ5_inflate_da8c8_0.2.2.2.2.2.2.2.2.2.1
theorem dJ5_inflate_da8c8_18 : decode cJ5_inflate_da8c8 18 = .ok (.getfield 15, 3) := wtJ5_inflate_da8c8_0.2.2.2.2.2.2.2.2.2.2.1
theorem dJ5_inflate_da8c8_21 : decode cJ5_inflate_da8c8 21 = .ok (.iconst 0, 1) := wtJ5_inflate_da8c8_0.2.2.2.2.2.2.2.2.2.2.2.1
theorem dJ5_inflate_da8c8_22 : decode cJ5_inflate_da8c8 22 = .ok (.aload_n 1, 1) := wtJ5_inflate_da8c8_0.2.2.2.2.2.2.2.2.2.2.2.2.1
theorem dJ5_inflate_da8c8_23 : decode cJ5_inflate_da8c8 23 = .ok (.iconst 0, 1) := wtJ5_inflate_da8c8_0.2.2.2.2.2.2.2.2.2.2.2.2.2.1
theorem wtJ5_inflate_da8c8_24 : dwcj cJ5_inflate_da8c8 24 [(0, .aload_n 0, 1), (1, .getfield 79, 3), (4, .invokestatic 125, 3), (7, .aload_n 0, 1), (8, .aload_n 1, 1), (9, .putfield 15, 3), (12, .aload_n 0, 1), (13, .iconst 1, 1), (14, .putfield 22, 3), (17, .return_, 1)] := dw_all (l := [42, 180, 0, 79, 184, 0, 125, 42, 43, 181, 0, 15, 42, 4, 181, 0, 22, 177]) (by decide +kernel)
theorem dJ5_inflate_da8c8_24 : decode cJ5_inflate_da8c8 24 = .ok (.aload_n 0, 1) := wtJ5_inflate_da8c8_24.1
theorem dJ5_inflate_da8c8_25 : decode cJ5_inflate_da8c8 25 = .ok (.getfield 79, 3) := wtJ5_inflate_da8c8_24.2.1
theorem dJ5_inflate_da8c8_28 : decode cJ5_inflate_da8c8 28 = .ok (.invokestatic 125, 3) := wtJ5_inflate_da8c8_24.2.2.1
theorem dJ5_inflate_da8c8_31 : decode cJ5_inflate_da8c8 31 = .ok (.aload_n 0, 1) := wtJ5_inflate_da8c8_24.2.2.2.1
theorem dJ5_inflate_da8c8_32 : decode cJ5_inflate_da8c8 32 = .ok (.aload_n 1, 1) := wtJ5_inflate_da8c8_24.2.2.2.2.1
theorem dJ5_inflate_da8c8_33 : decode cJ5_inflate_da8c8 33 = .ok (.putfield 15, 3) := wtJ5_inflate_da8c8_24.2.2.2.2.2.1
theorem dJ5_inflate_da8c8_36 : decode cJ5_inflate_da8c8 36 = .ok (.aload_n 0, 1) := wtJ5_inflate_da8c8_24.2.2.2.2.2.2.1
theorem dJ5_inflate_da8c8_37 : decode cJ5_inflate_da8c8 37 = .ok (.iconst 1, 1) := wtJ5_inflate_da8c8_24.2.2.2.2.2.2.2.1
theorem dJ5_inflate_da8c8_38 : decode cJ5_inflate_da8c8 38 = .ok (.putfield 22, 3) := wtJ5_inflate_da8c8_24.2.2.2.2.2.2.2.2.1
theorem dJ5_inflate_da8c8_41 : decode cJ5_inflate_da8c8 41 = .ok (.return_, 1) := wtJ5_inflate_da8c8_24.2.2.2.2.2.2.2.2.2.1
theorem wtJ5_append_cf1ce_0 : dwcj cJ5_append_cf1ce 0 [(0, .aload_n 1, 1), (1, .ifnonnull 8, 3), (4, .aload_n 0, 1), (5, .invokevirtual 204, 3), (8, .areturn, 1), (9, .aload_n 1, 1), (10, .invokevirtual 32, 3), (13, .istore_n 2, 1), (14, .aload_n 0, 1), (15, .aload_n 0, 1), (16, .getfield 79, 3), (19, .iload_n 2, 1), (20, .iadd, 1), (21, .invokevirtual 100, 3)] := dw_all (l := [43, 199, 0, 8, 42, 182, 0, 204, 176, 43, 182, 0, 32, 61, 42, 42, 180, 0, 79, 28, 96, 182, 0, 100]) (by decide +kernel)
theorem dJ5_append_cf1ce_0 : decode cJ5_append_cf1ce 0 = .ok (.aload_n 1, 1) := wtJ5_append_cf1ce_0.1
theorem dJ5_append_cf1ce_1 : decode cJ5_append_cf1ce 1 = .ok (.ifnonnull 8, 3) := wtJ5_append_cf1ce_0.2.1
theorem dJ5_append_cf1ce_4 : decode cJ5_append_cf1ce 4 = .ok (.aload_n 0, 1) := wtJ5_append_cf1ce_0.2.2.1
theorem dJ5_append_cf1ce_5 : decode cJ5_append_cf1ce 5 = .ok (.invokevirtual 204, 3) := wtJ5_append_cf1ce_0.2.2.2.1
theorem dJ5_append_cf1ce_8 : decode cJ5_append_cf1ce 8 = .ok (.areturn, 1) := wtJ5_append_cf1ce_0.2.2.2.2.1
theorem dJ5_append_cf1ce_9 : decode cJ5_append_cf1ce 9 = .ok (.aload_n 1, 1) := wtJ5_append_cf1ce_0.2.2.2.2.2.1
theorem dJ5_append_cf1ce_10 : decode cJ5_append_cf1ce 10 = .ok (.invokevirtual 32, 3) := wtJ5_append_cf1ce_0.2.2.2.2.2.2.1
theorem dJ5_append_cf1ce_13 : decode cJ5_append_cf1ce 13 = .ok (.istore_n 2, 1) := wtJ5_append_cf1ce_0.2.2.2.2.2.2.2.1
theorem dJ5_append_cf1ce_14 : decode cJ5_append_cf1ce 14 = .ok (.aload_n 0, 1) := wtJ5_append_cf1ce_0.2.2.2.2.2.2.2.2.1
theorem dJ5_append_cf1ce_15 : decode cJ5_append_cf1ce 15 = .ok (.aload_n 0, 1) := wtJ5_append_cf1ce_0.2.2.2.2.2.2.2.2.2.1
theorem dJ5_append_cf1ce_16 : decode cJ5_append_cf1ce 16 = .ok (.getfield 79, 3) := wtJ5_append_cf1ce_0.2.2.2.2.2.2.2.2.2.2.1
theorem dJ5_append_cf1ce_19 : decode cJ5_append_cf1ce 19 = .ok (.iload_n 2, 1) := wtJ5_append_cf1ce_0.2.2.2.2.2.2.2.2.2.2.2.1
theorem dJ5_append_cf1ce_20 : decode cJ5_append_cf1ce 20 = .ok (.iadd, 1) := wtJ5_append_cf1ce_0.2.2.2.2.2.2.2.2.2.2.2.2.1
theorem dJ5_append_cf1ce_21 : decode cJ5_append_cf1ce 21 = .ok (.invokevirtual 100, 3) := wtJ5_append_cf1ce_0.2.2.2.2.2.2.2.2.2.2.2.2.2.1
theorem wtJ5_append_cf1ce_24 : dwcj cJ5_append_cf1ce 24 [(0, .aload_n 0, 1), (1, .aload_n 0, 1), (2, .getfield 79, 3), (5, .aload_n 1, 1), (6, .invokevirtual 208, 3), (9, .aload_n 0, 1), (10, .dup, 1), (11, .getfield 79, 3), (14, .iload_n 2, 1), (15, .iadd, 1), (16, .putfield 79, 3), (19, .aload_n 0, 1), (20, .areturn, 1)] := dw_all (l := [42, 42, 180, 0, 79, 43, 182, 0, 208, 42, 89, 180, 0, 79, 28, 96, 181, 0, 79, 42, 176]) (by decide +kernel)
theorem dJ5_append_cf1ce_24 : decode cJ5_append_cf1ce 24 = .ok (.aload_n 0, 1) := wtJ5_append_cf1ce_24.1
theorem dJ5_append_cf1ce_25 : decode cJ5_append_cf1ce 25 = .ok (.aload_n 0, 1) := wtJ5_append_cf1ce_24.2.1
theorem dJ5_append_cf1ce_26 : decode cJ5_append_cf1ce 26 = .ok (.getfield 79, 3) := wtJ5_append_cf1ce_24.2.2.1
theorem dJ5_append_cf1ce_29 : decode cJ5_append_cf1ce 29 = .ok (.aload_n 1, 1) := wtJ5_append_cf1ce_24.2.2.2.1
theorem dJ5_append_cf1ce_30 : decode cJ5_append_cf1ce 30 = .ok (.invokevirtual 208, 3) := wtJ5_append_cf1ce_24.2.2.2.2.1
theorem dJ5_append_cf1ce_33 : decode cJ5_append_cf1ce 33 = .ok (.aload_n 0, 1) := wtJ5_append_cf1ce_24.2.2.2.2.2.1
theorem dJ5_append_cf1ce_34 : decode cJ5_append_cf1ce 34 = .ok (.dup, 1) := wtJ5_append_cf1ce_24.2.2.2.2.2.2.1
theorem dJ5_append_cf1ce_35 : decode cJ5_append_cf1ce 35 = .ok (.getfield 79, 3) := wtJ5_append_cf1ce_24.2.2.2.2.2.2.2.1
theorem dJ5_append_cf1ce_38 : decode cJ5_append_cf1ce 38 = .ok (.iload_n 2, 1) := wtJ5_append_cf1ce_24.2.2.2.2.2.2.2.2.1
theorem dJ5_append_cf1ce_39 : decode cJ5_append_cf1ce 39 = .ok (.iadd, 1) := wtJ5_append_cf1ce_24.2.2.2.2.2.2.2.2.2.1
theorem dJ5_append_cf1ce_40 : decode cJ5_append_cf1ce 40 = .ok (.putfield 79, 3) := wtJ5_append_cf1ce_24.2.2.2.2.2.2.2.2.2.2.1
theorem dJ5_append_cf1ce_43 : decode cJ5_append_cf1ce 43 = .ok (.aload_n 0, 1) := wtJ5_append_cf1ce_24.2.2.2.2.2.2.2.2.2.2.2.1
theorem dJ5_append_cf1ce_44 : decode cJ5_append_cf1ce 44 = .ok (.areturn, 1) := wtJ5_append_cf1ce_24.2.2.2.2.2.2.2.2.2.2.2.2.1
theorem wtJ5_appendNull_278bc_0 : dwcj cJ5_appendNull_278bc 0 [(0, .aload_n 0, 1), (1, .aload_n 0, 1), (2, .getfield 79, 3), (5, .iconst 4, 1), (6, .iadd, 1), (7, .invokevirtual 100, 3), (10, .aload_n 0, 1), (11, .getfield 79, 3), (14, .istore_n 1, 1), (15, .aload_n 0, 1), (16, .getfield 15, 3), (19, .astore_n 2, 1), (20, .aload_n 0, 1), (21, .invokevirtual 83, 3)] := dw_all (l := [42, 42, 180, 0, 79, 7, 96, 182, 0, 100, 42, 180, 0, 79, 60, 42, 180, 0, 15, 77, 42, 182, 0, 83]) (by decide +kernel)
theorem dJ5_appendNull_278bc_0 : decode cJ5_appendNull_278bc 0 = .ok (.aload_n 0, 1) := wtJ5_appendNull_278bc_0.1
theorem dJ5_appendNull_278bc_1 : decode cJ5_appendNull_278bc 1 = .ok (.aload_n 0, 1) := wtJ5_appendNull_278bc_0.2.1
theorem dJ5_appendNull_278bc_2 : decode cJ5_appendNull_278bc 2 = .ok (.getfield 79, 3) := wtJ5_appendNull_278bc_0.2.2.1
theorem dJ5_appendNull_278bc_5 : decode cJ5_appendNull_278bc 5 = .ok (.iconst 4, 1) := wtJ5_appendNull_278bc_0.2.2.2.1
theorem dJ5_appendNull_278bc_6 : decode cJ5_appendNull_278bc 6 = .ok (.iadd, 1) := wtJ5_appendNull_278bc_0.2.2.2.2.1
theorem dJ5_appendNull_278bc_7 : decode cJ5_appendNull_278bc 7 = .ok (.invokevirtual 100, 3) := wtJ5_appendNull_278bc_0.2.2.2.2.2.1
theorem dJ5_appendNull_278bc_10 : decode cJ5_appendNull_278bc 10 = .ok (.aload_n 0, 1) := wtJ5_appendNull_278bc_0.2.2.2.2.2.2.1
theorem dJ5_appendNull_278bc_11 : decode cJ5_appendNull_278bc 11 = .ok (.getfield 79, 3) := wtJ5_appendNull_278bc_0.2.2.2.2.2.2.2.1
theorem dJ5_appendNull_278bc_14 : decode cJ5_appendNull_278bc 14 = .ok (.istore_n 1, 1) := wtJ5_appendNull_278bc_0.2.2.2.2.2.2.2.2.1
theorem dJ5_appendNull_278bc_15 : decode cJ5_appendNull_278bc 15 = .ok (.aload_n 0, 1) := wtJ5_appendNull_278bc_0.2.2.2.2.2.2.2.2.2.1
theorem dJ5_appendNull_278bc_16 : decode cJ5_appendNull_278bc 16 = .ok (.getfield 15, 3) := wtJ5_appendNull_278bc_0.2.2.2.2.2.2.2.2.2.2.1
theorem dJ5_appendNull_278bc_19 : decode cJ5_appendNull_278bc 19 = .ok (.astore_n 2, 1) := wtJ5_appendNull_278bc_0.2.2.2.2.2.2.2.2.2.2.2.1
theorem dJ5_appendNull_278bc_20 : decode cJ5_appendNull_278bc 20 = .ok (.aload_n 0, 1) := wtJ5_appendNull_278bc_0.2.2.2.2.2.2.2.2.2.2.2.2.1
theorem dJ5_appendNull_278bc_21 : decode cJ5_appendNull_278bc 21 = .ok (.invokevirtual 83, 3) := wtJ5_appendNull_278bc_0.2.2.2.2.2.2.2.2.2.2.2.2.2.1
theorem wtJ5_appendNull_278bc_24 : dwcj cJ5_appendNull_278bc 24 [(0, .ifCond .eq 38, 3), (3, .aload_n 2, 1), (4, .iload_n 1, 1), (5, .iinc 1 1, 3), (8, .bipush 110, 2), (10, .bastore, 1), (11, .aload_n 2, 1), (12, .iload_n 1, 1), (13, .iinc 1 1, 3), (16, .bipush 117, 2), (18, .bastore, 1), (19, .aload_n 2, 1), (20, .iload_n 1, 1), (21, .iinc 1 1, 3)] := dw_all (l := [153, 0, 38, 44, 27, 132, 1, 1, 16, 110, 84, 44, 27, 132, 1, 1, 16, 117, 84, 44, 27, 132, 1, 1]) (by decide +kernel)
theorem dJ5_appendNull_278bc_24 : decode cJ5_appendNull_278bc 24 = .ok (.ifCond .eq 38, 3) := wtJ5_appendNull_278bc_24.1
theorem dJ5_appendNull_278bc_27 : decode cJ5_appendNull_278bc 27 = .ok (.aload_n 2, 1) := wtJ5_appendNull_278bc_24.2.1
theorem dJ5_appendNull_278bc_28 : decode cJ5_appendNull_278bc 28 = .ok (.iload_n 1, 1) := wtJ5_appendNull_278bc_24.2.2.1
theorem dJ5_appendNull_278bc_29 : decode cJ5_appendNull_278bc 29 = .ok (.iinc 1 1, 3) := wtJ5_appendNull_278bc_24.2.2.2.1
theorem dJ5_appendNull_278bc_32 : decode cJ5_appendNull_278bc 32 = .ok (.bipush 110, 2) := wtJ5_appendNull_278bc_24.2.2.2.2.1
theorem dJ5_appendNull_278bc_34 : decode cJ5_appendNull_278bc 34 = .ok (.bastore, 1) := wtJ5_appendNull_278bc_24.2.2.2.2.2.1
theorem dJ5_appendNull_278bc_35 : decode cJ5_appendNull_278bc 35 = .ok (.aload_n 2, 1) := wtJ5_appendNull_278bc_24.2.2.2.2.2.2.1
theorem dJ5_appendNull_278bc_36 : decode cJ5_appendNull_278bc 36 = .ok (.iload_n 1, 1) := wtJ5_appendNull_278bc_24.2.2.2.2.2.2.2.1
theorem dJ5_appendNull_278bc_37 : decode cJ5_appendNull_278bc 37 = .ok (.iinc 1 1, 3) := wtJ5_appendNull_278bc_24.2.2.2.2.2.2.2.2.1
theorem dJ5_appendNull_278bc_40 : decode cJ5_appendNull_278bc 40 = .ok (.bipush 117, 2) := wtJ5_appendNull_278bc_24.2.2.2.2.2.2.2.2.2.1
theorem dJ5_appendNull_278bc_42 : decode cJ5_appendNull_278bc 42 = .ok (.bastore, 1) := wtJ5_appendNull_278bc_24.2.2.2.2.2.2.2.2.2.2.1
theorem dJ5_appendNull_278bc_43 : decode cJ5_appendNull_278bc 43 = .ok (.aload_n 2, 1) := wtJ5_appendNull_278bc_24.2.2.2.2.2.2.2.2.2.2.2.1
theorem dJ5_appendNull_278bc_44 : decode cJ5_appendNull_278bc 44 = .ok (.iload_n 1, 1) := wtJ5_appendNull_278bc_24.2.2.2.2.2.2.2.2.2.2.2.2.1
theorem dJ5_appendNull_278bc_45 : decode cJ5_appendNull_278bc 45 = .ok (.iinc 1 1, 3) := wtJ5_appendNull_278bc_24.2.2.2.2.2.2.2.2.2.2.2.2.2.1
theorem wtJ5_appendNull_278bc_48 : dwcj cJ5_appendNull_278bc 48 [(0, .bipush 108, 2), (2, .bastore, 1), (3, .aload_n 2, 1), (4, .iload_n 1, 1), (5, .iinc 1 1, 3), (8, .bipush 108, 2), (10, .bastore, 1), (11, .goto 17, 3), (14, .aload_n 2, 1), (15, .iload_n 1, 1), (16, .bipush 110, 2), (18, .bipush 117, 2), (20, .bipush 108, 2), (22, .bipush 108, 2)] := dw_all (l := [16, 108, 84, 44, 27, 132, 1, 1, 16, 108, 84, 167, 0, 17, 44, 27, 16, 110, 16, 117, 16, 108, 16, 108]) (by decide +kernel)
theorem dJ5_appendNull_278bc_48 : decode cJ5_appendNull_278bc 48 = .ok (.bipush 108, 2) := wtJ5_appendNull_278bc_48.1
theorem dJ5_appendNull_278bc_50 : decode cJ5_appendNull_278bc 50 = .ok (.bastore, 1) := wtJ5_appendNull_278bc_48.2.1
theorem dJ5_appendNull_278bc_51 : decode cJ5_appendNull_278bc 51 = .ok (.aload_n 2, 1) := wtJ5_appendNull_278bc_48.2.2.1
theorem dJ5_appendNull_278bc_52 : decode cJ5_appendNull_278bc 52 = .ok (.iload_n 1, 1) := wtJ5_appendNull_278bc_48.2.2.2.1
theorem dJ5_appendNull_278bc_53 : decode cJ5_appendNull_278bc 53 = .ok (.iinc 1 1, 3) := wtJ5_appendNull_278bc_48.2.2.2.2.1
theorem dJ5_appendNull_278bc_56 : decode cJ5_appendNull_278bc 56 = .ok (.bipush 108, 2) := wtJ5_appendNull_278bc_48.2.2.2.2.2.1
theorem dJ5_appendNull_278bc_58 : decode cJ5_appendNull_278bc 58 = .ok (.bastore, 1) := wtJ5_appendNull_278bc_48.2.2.2.2.2.2.1
theorem dJ5_appendNull_278bc_59 : decode cJ5_appendNull_278bc 59 = .ok (.goto 17, 3) := wtJ5_appendNull_278bc_48.2.2.2.2.2.2.2.1
theorem dJ5_appendNull_278bc_62 : decode cJ5_appendNull_278bc 62 = .ok (.aload_n 2, 1) := wtJ5_appendNull_278bc_48.2.2.2.2.2.2.2.2.1
theorem dJ5_appendNull_278bc_63 : decode cJ5_appendNull_278bc 63 = .ok (.iload_n 1, 1) := wtJ5_appendNull_278bc_48.2.2.2.2.2.2.2.2.2.1
theorem dJ5_appendNull_278bc_64 : decode cJ5_appendNull_278bc 64 = .ok (.bipush 110, 2) := wtJ5_appendNull_278bc_48.2.2.2.2.2.2.2.2.2.2.1
theorem dJ5_appendNull_278bc_66 : decode cJ5_appendNull_278bc 66 = .ok (.bipush 117, 2) := wtJ5_appendNull_278bc_48.2.2.2.2.2.2.2.2.2.2.2.1
theorem dJ5_appendNull_278bc_68 : decode cJ5_appendNull_278bc 68 = .ok (.bipush 108, 2) := wtJ5_appendNull_278bc_48.2.2.2.2.2.2.2.2.2.2.2.2.1
theorem dJ5_appendNull_278bc_70 : decode cJ5_appendNull_278bc 70 = .ok (.bipush 108, 2) := wtJ5_appendNull_278bc_48.2.2.2.2.2.2.2.2.2.2.2.2.2.1
theorem wtJ5_appendNull_278bc_72 : dwcj cJ5_appendNull_278bc 72 [(0, .invokestatic 226, 3), (3, .istore_n 1, 1), (4, .aload_n 0, 1), (5, .iload_n 1, 1), (6, .putfield 79, 3), (9, .aload_n 0, 1), (10, .areturn, 1)] := dw_all (l := [184, 0, 226, 60, 42, 27, 181, 0, 79, 42, 176]) (by decide +kernel)
theorem dJ5_appendNull_278bc_72 : decode cJ5_appendNull_278bc 72 = .ok (.invokestatic 226, 3) := wtJ5_appendNull_278bc_72.1
theorem dJ5_appendNull_278bc_75 : decode cJ5_appendNull_278bc 75 = .ok (.istore_n 1, 1) := wtJ5_appendNull_278bc_72.2.1
theorem dJ5_appendNull_278bc_76 : decode cJ5_appendNull_278bc 76 = .ok (.aload_n 0, 1) := wtJ5_appendNull_278bc_72.2.2.1
theorem dJ5_appendNull_278bc_77 : decode cJ5_appendNull_278bc 77 = .ok (.iload_n 1, 1) := wtJ5_appendNull_278bc_72.2.2.2.1
theorem dJ5_appendNull_278bc_78 : decode cJ5_appendNull_278bc 78 = .ok (.putfield 79, 3) := wtJ5_appendNull_278bc_72.2.2.2.2.1
theorem dJ5_appendNull_278bc_81 : decode cJ5_appendNull_278bc 81 = .ok (.aload_n 0, 1) := wtJ5_appendNull_278bc_72.2.2.2.2.2.1
theorem dJ5_appendNull_278bc_82 : decode cJ5_appendNull_278bc 82 = .ok (.areturn, 1) := wtJ5_appendNull_278bc_72.2.2.2.2.2.2.1
theorem wtJ5_append_3fe6f_0 : dwcj cJ5_append_3fe6f 0 [(0, .aload_n 0, 1), (1, .aload_n 0, 1), (2, .getfield 79, 3), (5, .iconst 1, 1), (6, .iadd, 1), (7, .invokevirtual 100, 3), (10, .aload_n 0, 1), (11, .invokevirtual 83, 3), (14, .ifCond .eq 31, 3), (17, .iload_n 1, 1), (18, .invokestatic 191, 3), (21, .ifCond .eq 24, 3)] := dw_all (l := [42, 42, 180, 0, 79, 4, 96, 182, 0, 100, 42, 182, 0, 83, 153, 0, 31, 27, 184, 0, 191, 153, 0, 24]) (by decide +kernel)
theorem dJ5_append_3fe6f_0 : decode cJ5_append_3fe6f 0 = .ok (.aload_n 0, 1) := wtJ5_append_3fe6f_0.1
theorem dJ5_append_3fe6f_1 : decode cJ5_append_3fe6f 1 = .ok (.aload_n 0, 1) := wtJ5_append_3fe6f_0.2.1
theorem dJ5_append_3fe6f_2 : decode cJ5_append_3fe6f 2 = .ok (.getfield 79, 3) := wtJ5_append_3fe6f_0.2.2.1
theorem dJ5_append_3fe6f_5 : decode cJ5_append_3fe6f 5 = .ok (.iconst 1, 1) := wtJ5_append_3fe6f_0.2.2.2.1
theorem dJ5_append_3fe6f_6 : decode cJ5_append_3fe6f 6 = .ok (.iadd, 1) := wtJ5_append_3fe6f_0.2.2.2.2.1
theorem dJ5_append_3fe6f_7 : decode cJ5_append_3fe6f 7 = .ok (.invokevirtual 100, 3) := wtJ5_append_3fe6f_0.2.2.2.2.2.1
theorem dJ5_append_3fe6f_10 : decode cJ5_append_3fe6f 10 = .ok (.aload_n 0, 1) := wtJ5_append_3fe6f_0.2.2.2.2.2.2.1
theorem dJ5_append_3fe6f_11 : decode cJ5_append_3fe6f 11 = .ok (.invokevirtual 83, 3) := wtJ5_append_3fe6f_0.2.2.2.2.2.2.2.1
theorem dJ5_append_3fe6f_14 : decode cJ5_append_3fe6f 14 = .ok (.ifCond .eq 31, 3) := wtJ5_append_3fe6f_0.2.2.2.2.2.2.2.2.1
theorem dJ5_append_3fe6f_17 : decode cJ5_append_3fe6f 17 = .ok (.iload_n 1, 1) := wtJ5_append_3fe6f_0.2.2.2.2.2.2.2.2.2.1
theorem dJ5_append_3fe6f_18 : decode cJ5_append_3fe6f 18 = .ok (.invokestatic 191, 3) := wtJ5_append_3fe6f_0.2.2.2.2.2.2.2.2.2.2.1
theorem dJ5_append_3fe6f_21 : decode cJ5_append_3fe6f 21 = .ok (.ifCond .eq 24, 3) := wtJ5_append_3fe6f_0.2.2.2.2.2.2.2.2.2.2.2.1
theorem wtJ5_append_3fe6f_24 : dwcj cJ5_append_3fe6f 24 [(0, .aload_n 0, 1), (1, .getfield 15, 3), (4, .aload_n 0, 1), (5, .dup, 1), (6, .getfield 79, 3), (9, .dup_x1, 1), (10, .iconst 1, 1), (11, .iadd, 1), (12, .putfield 79, 3), (15, .iload_n 1, 1), (16, .i2b, 1), (17, .bastore, 1), (18, .goto 33, 3), (21, .aload_n 0, 1), (22, .invokevirtual 83, 3)] := dw_all (l := [42, 180, 0, 15, 42, 89, 180, 0, 79, 90, 4, 96, 181, 0, 79, 27, 145, 84, 167, 0, 33, 42, 182, 0, 83]) (by decide +kernel)
theorem dJ5_append_3fe6f_24 : decode cJ5_append_3fe6f 24 = .ok (.aload_n 0, 1) := wtJ5_append_3fe6f_24.1
theorem dJ5_append_3fe6f_25 : decode cJ5_append_3fe6f 25 = .ok (.getfield 15, 3) := wtJ5_append_3fe6f_24.2.1
theorem dJ5_append_3fe6f_28 : decode cJ5_append_3fe6f 28 = .ok (.aload_n 0, 1) := wtJ5_append_3fe6f_24.2.2.1
theorem dJ5_append_3fe6f_29 : decode cJ5_append_3fe6f 29 = .ok (.dup, 1) := wtJ5_append_3fe6f_24.2.2.2.1
theorem dJ5_append_3fe6f_30 : decode cJ5_append_3fe6f 30 = .ok (.getfield 79, 3) := wtJ5_append_3fe6f_24.2.2.2.2.1
theorem dJ5_append_3fe6f_33 : decode cJ5_append_3fe6f 33 = .ok (.dup_x1, 1) := wtJ5_append_3fe6f_24.2.2.2.2.2.1
theorem dJ5_append_3fe6f_34 : decode cJ5_append_3fe6f 34 = .ok (.iconst 1, 1) := wtJ5_append_3fe6f_24.2.2.2.2.2.2.1
theorem dJ5_append_3fe6f_35 : decode cJ5_append_3fe6f 35 = .ok (.iadd, 1) := wtJ5_append_3fe6f_24.2.2.2.2.2.2.2.1
theorem dJ5_append_3fe6f_36 : decode cJ5_append_3fe6f 36 = .ok (.putfield 79, 3) := wtJ5_append_3fe6f_24.2.2.2.2.2.2.2.2.1
theorem dJ5_append_3fe6f_39 : decode cJ5_append_3fe6f 39 = .ok (.iload_n 1, 1) := wtJ5_append_3fe6f_24.2.2.2.2.2.2.2.2.2.1
theorem dJ5_append_3fe6f_40 : decode cJ5_append_3fe6f 40 = .ok (.i2b, 1) := wtJ5_append_3fe6f_24.2.2.2.2.2.2.2.2.2.2.1
theorem dJ5_append_3fe6f_41 : decode cJ5_append_3fe6f 41 = .ok (.bastore, 1) := wtJ5_append_3fe6f_24.2.2.2.2.2.2.2.2.2.2.2.1
theorem dJ5_append_3fe6f_42 : decode cJ5_append_3fe6f 42 = .ok (.goto 33, 3) := wtJ5_append_3fe6f_24.2.2.2.2.2.2.2.2.2.2.2.2.1
theorem dJ5_append_3fe6f_45 : decode cJ5_append_3fe6f 45 = .ok (.aload_n 0, 1) := wtJ5_append_3fe6f_24.2.2.2.2.2.2.2.2.2.2.2.2.2.1
theorem dJ5_append_3fe6f_46 : decode cJ5_append_3fe6f 46 = .ok (.invokevirtual 83, 3) := wtJ5_append_3fe6f_24.2.2.2.2.2.2.2.2.2.2.2.2.2.2.1
theorem wtJ5_append_3fe6f_49 : dwcj cJ5_append_3fe6f 49 [(0, .ifCond .eq 7, 3), (3, .aload_n 0, 1), (4, .invokevirtual 195, 3), (7, .aload_n 0, 1), (8, .getfield 15, 3), (11, .aload_n 0, 1), (12, .dup, 1), (13, .getfield 79, 3), (16, .dup_x1, 1), (17, .iconst 1, 1), (18, .iadd, 1), (19, .putfield 79, 3), (22, .iload_n 1, 1), (23, .invokestatic 197, 3)] := dw_all (l := [153, 0, 7, 42, 182, 0, 195, 42, 180, 0, 15, 42, 89, 180, 0, 79, 90, 4, 96, 181, 0, 79, 27, 184, 0, 197]) (by decide +kernel)
theorem dJ5_append_3fe6f_49 : decode cJ5_append_3fe6f 49 = .ok (.ifCond .eq 7, 3) := wtJ5_append_3fe6f_49.1
theorem dJ5_append_3fe6f_52 : decode cJ5_append_3fe6f 52 = .ok (.aload_n 0, 1) := wtJ5_append_3fe6f_49.2.1
theorem dJ5_append_3fe6f_53 : decode cJ5_append_3fe6f 53 = .ok (.invokevirtual 195, 3) := wtJ5_append_3fe6f_49.2.2.1
theorem dJ5_append_3fe6f_56 : decode cJ5_append_3fe6f 56 = .ok (.aload_n 0, 1) := wtJ5_append_3fe6f_49.2.2.2.1
theorem dJ5_append_3fe6f_57 : decode cJ5_append_3fe6f 57 = .ok (.getfield 15, 3) := wtJ5_append_3fe6f_49.2.2.2.2.1
theorem dJ5_append_3fe6f_60 : decode cJ5_append_3fe6f 60 = .ok (.aload_n 0, 1) := wtJ5_append_3fe6f_49.2.2.2.2.2.1
theorem dJ5_append_3fe6f_61 : decode cJ5_append_3fe6f 61 = .ok (.dup, 1) := wtJ5_append_3fe6f_49.2.2.2.2.2.2.1
theorem dJ5_append_3fe6f_62 : decode cJ5_append_3fe6f 62 = .ok (.getfield 79, 3) := wtJ5_append_3fe6f_49.2.2.2.2.2.2.2.1
theorem dJ5_append_3fe6f_65 : decode cJ5_append_3fe6f 65 = .ok (.dup_x1, 1) := wtJ5_append_3fe6f_49.2.2.2.2.2.2.2.2.1
theorem dJ5_append_3fe6f_66 : decode cJ5_append_3fe6f 66 = .ok (.iconst 1, 1) := wtJ5_append_3fe6f_49.2.2.2.2.2.2.2.2.2.1
theorem dJ5_append_3fe6f_67 : decode cJ5_append_3fe6f 67 = .ok (.iadd, 1) := wtJ5_append_3fe6f_49.2.2.2.2.2.2.2.2.2.2.1
theorem dJ5_append_3fe6f_68 : decode cJ5_append_3fe6f 68 = .ok (.putfield 79, 3) := wtJ5_append_3fe6f_49.2.2.2.2.2.2.2.2.2.2.2.1
theorem dJ5_append_3fe6f_71 : decode cJ5_append_3fe6f 71 = .ok (.iload_n 1, 1) := wtJ5_append_3fe6f_49.2.2.2.2.2.2.2.2.2.2.2.2.1
theorem dJ5_append_3fe6f_72 : decode cJ5_append_3fe6f 72 = .ok (.invokestatic 197, 3) := wtJ5_append_3fe6f_49.2.2.2.2.2.2.2.2.2.2.2.2.2.1
theorem wtJ5_append_3fe6f_75 : dwcj cJ5_append_3fe6f 75 [(0, .aload_n 0, 1), (1, .areturn, 1)] := dw_all (l := [42, 176]) (by decide +kernel)
theorem dJ5_append_3fe6f_75 : decode cJ5_append_3fe6f 75 = .ok (.aload_n 0, 1) := wtJ5_append_3fe6f_75.1
theorem dJ5_append_3fe6f_76 : decode cJ5_append_3fe6f 76 = .ok (.areturn, 1) := wtJ5_append_3fe6f_75.2.1
theorem wtJ5_append_c97b9_0 : dwcj cJ5_append_c97b9 0 [(0, .aload_n 0, 1), (1, .getfield 79, 3), (4, .istore_n 2, 1), (5, .iload_n 2, 1), (6, .iload_n 1, 1), (7, .invokestatic 245, 3), (10, .iadd, 1), (11, .istore_n 3, 1), (12, .aload_n 0, 1), (13, .iload_n 3, 1), (14, .invokevirtual 100, 3), (17, .aload_n 0, 1), (18, .invokevirtual 83, 3), (21, .ifCond .eq 16, 3)] := dw_all (l := [42, 180, 0, 79, 61, 28, 27, 184, 0, 245, 96, 62, 42, 29, 182, 0, 100, 42, 182, 0, 83, 153, 0, 16]) (by decide +kernel)
theorem dJ5_append_c97b9_0 : decode cJ5_append_c97b9 0 = .ok (.aload_n 0, 1) := wtJ5_append_c97b9_0.1
theorem dJ5_append_c97b9_1 : decode cJ5_append_c97b9 1 = .ok (.getfield 79, 3) := wtJ5_append_c97b9_0.2.1
theorem dJ5_append_c97b9_4 : decode cJ5_append_c97b9 4 = .ok (.istore_n 2, 1) := wtJ5_append_c97b9_0.2.2.1
theorem dJ5_append_c97b9_5 : decode cJ5_append_c97b9 5 = .ok (.iload_n 2, 1) := wtJ5_append_c97b9_0.2.2.2.1
theorem dJ5_append_c97b9_6 : decode cJ5_append_c97b9 6 = .ok (.iload_n 1, 1) := wtJ5_append_c97b9_0.2.2.2.2.1
theorem dJ5_append_c97b9_7 : decode cJ5_append_c97b9 7 = .ok (.invokestatic 245, 3) := wtJ5_append_c97b9_0.2.2.2.2.2.1
theorem dJ5_append_c97b9_10 : decode cJ5_append_c97b9 10 = .ok (.iadd, 1) := wtJ5_append_c97b9_0.2.2.2.2.2.2.1
theorem dJ5_append_c97b9_11 : decode cJ5_append_c97b9 11 = .ok (.istore_n 3, 1) := wtJ5_append_c97b9_0.2.2.2.2.2.2.2.1
theorem dJ5_append_c97b9_12 : decode cJ5_append_c97b9 12 = .ok (.aload_n 0, 1) := wtJ5_append_c97b9_0.2.2.2.2.2.2.2.2.1
theorem dJ5_append_c97b9_13 : decode cJ5_append_c97b9 13 = .ok (.iload_n 3, 1) := wtJ5_append_c97b9_0.2.2.2.2.2.2.2.2.2.1
theorem dJ5_append_c97b9_14 : decode cJ5_append_c97b9 14 = .ok (.invokevirtual 100, 3) := wtJ5_append_c97b9_0.2.2.2.2.2.2.2.2.2.2.1
theorem dJ5_append_c97b9_17 : decode cJ5_append_c97b9 17 = .ok (.aload_n 0, 1) := wtJ5_append_c97b9_0.2.2.2.2.2.2.2.2.2.2.2.1
theorem dJ5_append_c97b9_18 : decode cJ5_append_c97b9 18 = .ok (.invokevirtual 83, 3) := wtJ5_append_c97b9_0.2.2.2.2.2.2.2.2.2.2.2.2.1
theorem dJ5_append_c97b9_21 : decode cJ5_append_c97b9 21 = .ok (.ifCond .eq 16, 3) := wtJ5_append_c97b9_0.2.2.2.2.2.2.2.2.2.2.2.2.2.1
theorem wtJ5_append_c97b9_24 : dwcj cJ5_append_c97b9 24 [(0, .iload_n 1, 1), (1, .iload_n 3, 1), (2, .aload_n 0, 1), (3, .getfield 15, 3), (6, .invokestatic 248, 3), (9, .pop, 1), (10, .goto 14, 3), (13, .iload_n 1, 1), (14, .iload_n 2, 1), (15, .iload_n 3, 1), (16, .aload_n 0, 1), (17, .getfield 15, 3), (20, .invokestatic 251, 3), (23, .pop, 1)] := dw_all (l := [27, 29, 42, 180, 0, 15, 184, 0, 248, 87, 167, 0, 14, 27, 28, 29, 42, 180, 0, 15, 184, 0, 251, 87]) (by decide +kernel)
theorem dJ5_append_c97b9_24 : decode cJ5_append_c97b9 24 = .ok (.iload_n 1, 1) := wtJ5_append_c97b9_24.1
theorem dJ5_append_c97b9_25 : decode cJ5_append_c97b9 25 = .ok (.iload_n 3, 1) := wtJ5_append_c97b9_24.2.1
theorem dJ5_append_c97b9_26 : decode cJ5_append_c97b9 26 = .ok (.aload_n 0, 1) := wtJ5_append_c97b9_24.2.2.1
theorem dJ5_append_c97b9_27 : decode cJ5_append_c97b9 27 = .ok (.getfield 15, 3) := wtJ5_append_c97b9_24.2.2.2.1
theorem dJ5_append_c97b9_30 : decode cJ5_append_c97b9 30 = .ok (.invokestatic 248, 3) := wtJ5_append_c97b9_24.2.2.2.2.1
theorem dJ5_append_c97b9_33 : decode cJ5_append_c97b9 33 = .ok (.pop, 1) := wtJ5_append_c97b9_24.2.2.2.2.2.1
theorem dJ5_append_c97b9_34 : decode cJ5_append_c97b9 34 = .ok (.goto 14, 3) := wtJ5_append_c97b9_24.2.2.2.2.2.2.1
theorem dJ5_append_c97b9_37 : decode cJ5_append_c97b9 37 = .ok (.iload_n 1, 1) := wtJ5_append_c97b9_24.2.2.2.2.2.2.2.1
theorem dJ5_append_c97b9_38 : decode cJ5_append_c97b9 38 = .ok (.iload_n 2, 1) := wtJ5_append_c97b9_24.2.2.2.2.2.2.2.2.1
theorem dJ5_append_c97b9_39 : decode cJ5_append_c97b9 39 = .ok (.iload_n 3, 1) := wtJ5_append_c97b9_24.2.2.2.2.2.2.2.2.2.1
theorem dJ5_append_c97b9_40 : decode cJ5_append_c97b9 40 = .ok (.aload_n 0, 1) := wtJ5_append_c97b9_24.2.2.2.2.2.2.2.2.2.2.1
theorem dJ5_append_c97b9_41 : decode cJ5_append_c97b9 41 = .ok (.getfield 15, 3) := wtJ5_append_c97b9_24.2.2.2.2.2.2.2.2.2.2.2.1
theorem dJ5_append_c97b9_44 : decode cJ5_append_c97b9 44 = .ok (.invokestatic 251, 3) := wtJ5_append_c97b9_24.2.2.2.2.2.2.2.2.2.2.2.2.1
theorem dJ5_append_c97b9_47 : decode cJ5_append_c97b9 47 = .ok (.pop, 1) := wtJ5_append_c97b9_24.2.2.2.2.2.2.2.2.2.2.2.2.2.1
theorem wtJ5_append_c97b9_48 : dwcj cJ5_append_c97b9 48 [(0, .aload_n 0, 1), (1, .iload_n 3, 1), (2, .putfield 79, 3), (5, .aload_n 0, 1), (6, .areturn, 1)] := dw_all (l := [42, 29, 181, 0, 79, 42, 176]) (by decide +kernel)
theorem dJ5_append_c97b9_48 : decode cJ5_append_c97b9 48 = .ok (.aload_n 0, 1) := wtJ5_append_c97b9_48.1
theorem dJ5_append_c97b9_49 : decode cJ5_append_c97b9 49 = .ok (.iload_n 3, 1) := wtJ5_append_c97b9_48.2.1
theorem dJ5_append_c97b9_50 : decode cJ5_append_c97b9 50 = .ok (.putfield 79, 3) := wtJ5_append_c97b9_48.2.2.1
theorem dJ5_append_c97b9_53 : decode cJ5_append_c97b9 53 = .ok (.aload_n 0, 1) := wtJ5_append_c97b9_48.2.2.2.1
theorem dJ5_append_c97b9_54 : decode cJ5_append_c97b9 54 = .ok (.areturn, 1) := wtJ5_append_c97b9_48.2.2.2.2.1
theorem wtJ5_reverse_278bc_0 : dwcj cJ5_reverse_278bc 0 [(0, .aload_n 0, 1), (1, .getfield 15, 3), (4, .astore_n 1, 1), (5, .aload_n 0, 1), (6, .getfield 79, 3), (9, .istore_n 2, 1), (10, .iload_n 2, 1), (11, .iconst 1, 1), (12, .isub, 1), (13, .istore_n 3, 1), (14, .aload_n 0, 1), (15, .invokevirtual 83, 3), (18, .ifCond .eq 50, 3), (21, .iload_n 3, 1), (22, .iconst 1, 1), (23, .isub, 1)] := dw_all (l := [42, 180, 0, 15, 76, 42, 180, 0, 79, 61, 28, 4, 100, 62, 42, 182, 0, 83, 153, 0, 50, 29, 4, 100]) (by decide +kernel)
theorem dJ5_reverse_278bc_0 : decode cJ5_reverse_278bc 0 = .ok (.aload_n 0, 1) := wtJ5_reverse_278bc_0.1
theorem dJ5_reverse_278bc_1 : decode cJ5_reverse_278bc 1 = .ok (.getfield 15, 3) := wtJ5_reverse_278bc_0.2.1
theorem dJ5_reverse_278bc_4 : decode cJ5_reverse_278bc 4 = .ok (.astore_n 1, 1) := wtJ5_reverse_278bc_0.2.2.1
theorem dJ5_reverse_278bc_5 : decode cJ5_reverse_278bc 5 = .ok (.aload_n 0, 1) := wtJ5_reverse_278bc_0.2.2.2.1
theorem dJ5_reverse_278bc_6 : decode cJ5_reverse_278bc 6 = .ok (.getfield 79, 3) := wtJ5_reverse_278bc_0.2.2.2.2.1
theorem dJ5_reverse_278bc_9 : decode cJ5_reverse_278bc 9 = .ok (.istore_n 2, 1) := wtJ5_reverse_278bc_0.2.2.2.2.2.1
theorem dJ5_reverse_278bc_10 : decode cJ5_reverse_278bc 10 = .ok (.iload_n 2, 1) := wtJ5_reverse_278bc_0.2.2.2.2.2.2.1
theorem dJ5_reverse_278bc_11 : decode cJ5_reverse_278bc 11 = .ok (.iconst 1, 1) := wtJ5_reverse_278bc_0.2.2.2.2.2.2.2.1
theorem dJ5_reverse_278bc_12 : decode cJ5_reverse_278bc 12 = .ok (.isub, 1) := wtJ5_reverse_278bc_0.2.2.2.2.2.2.2.2.1
theorem dJ5_reverse_278bc_13 : decode cJ5_reverse_278bc 13 = .ok (.istore_n 3, 1) := wtJ5_reverse_278bc_0.2.2.2.2.2.2.2.2.2.1
theorem dJ5_reverse_278bc_14 : decode cJ5_reverse_278bc 14 = .ok (.aload_n 0, 1) := wtJ5_reverse_278bc_0.2.2.2.2.2.2.2.2.2.2.1
theorem dJ5_reverse_278bc_15 : decode cJ5_reverse_278bc 15 = .ok (.invokevirtual 83, 3) := wtJ5_reverse_278bc_0.2.2.2.2.2.2.2.2.2.2.2.1
theorem dJ5_reverse_278bc_18 : decode cJ5_reverse_278bc 18 = .ok (.ifCond .eq 50, 3) := wtJ5_reverse_278bc_0.2.2.2.2.2.2.2.2.2.2.2.2.1
theorem dJ5_reverse_278bc_21 : decode cJ5_reverse_278bc 21 = .ok (.iload_n 3, 1) := wtJ5_reverse_278bc_0.2.2.2.2.2.2.2.2.2.2.2.2.2.1
theorem dJ5_reverse_278bc_22 : decode cJ5_reverse_278bc 22 = .ok (.iconst 1, 1) := wtJ5_reverse_278bc_0.2.2.2.2.2.2.2.2.2.2.2.2.2.2.1
theorem dJ5_reverse_278bc_23 : decode cJ5_reverse_278bc 23 = .ok (.isub, 1) := wtJ5_reverse_278bc_0.2.2.2.2.2.2.2.2.2.2.2.2.2.2.2.1
theorem wtJ5_reverse_278bc_24 : dwcj cJ5_reverse_278bc 24 [(0, .iconst 1, 1), (1, .ishr, 1), (2, .istore 4, 2), (4, .iload 4, 2), (6, .ifCond .lt 35, 3), (9, .iload_n 3, 1), (10, .iload 4, 2), (12, .isub, 1), (13, .istore 5, 2), (15, .aload_n 1, 1), (16, .iload 4, 2), (18, .baload, 1), (19, .istore 6, 2), (21, .aload_n 1, 1), (22, .iload 4, 2)] := dw_all (l := [4, 122, 54, 4, 21, 4, 155, 0, 35, 29, 21, 4, 100, 54, 5, 43, 21, 4, 51, 54, 6, 43, 21, 4]) (by decide +kernel)
theorem dJ5_reverse_278bc_24 : decode cJ5_reverse_278bc 24 = .ok (.iconst 1, 1) := wtJ5_reverse_278bc_24.1
theorem dJ5_reverse_278bc_25 : decode cJ5_reverse_278bc 25 = .ok (.ishr, 1) := wtJ5_reverse_278bc_24.2.1
theorem dJ5_reverse_278bc_26 : decode cJ5_reverse_278bc 26 = .ok (.istore 4, 2) := wtJ5_reverse_278bc_24.2.2.1
theorem dJ5_reverse_278bc_28 : decode cJ5_reverse_278bc 28 = .ok (.iload 4, 2) := wtJ5_reverse_278bc_24.2.2.2.1
theorem dJ5_reverse_278bc_30 : decode cJ5_reverse_278bc 30 = .ok (.ifCond .lt 35, 3) := wtJ5_reverse_278bc_24.2.2.2.2.1
theorem dJ5_reverse_278bc_33 : decode cJ5_reverse_278bc 33 = .ok (.iload_n 3, 1) := wtJ5_reverse_278bc_24.2.2.2.2.2.1
theorem dJ5_reverse_278bc_34 : decode cJ5_reverse_278bc 34 = .ok (.iload 4, 2) := wtJ5_reverse_278bc_24.2.2.2.2.2.2.1
theorem dJ5_reverse_278bc_36 : decode cJ5_reverse_278bc 36 = .ok (.isub, 1) := wtJ5_reverse_278bc_24.2.2.2.2.2.2.2.1
theorem dJ5_reverse_278bc_37 : decode cJ5_reverse_278bc 37 = .ok (.istore 5, 2) := wtJ5_reverse_278bc_24.2.2.2.2.2.2.2.2.1
theorem dJ5_reverse_278bc_39 : decode cJ5_reverse_278bc 39 = .ok (.aload_n 1, 1) := wtJ5_reverse_278bc_24.2.2.2.2.2.2.2.2.2.1
theorem dJ5_reverse_278bc_40 : decode cJ5_reverse_278bc 40 = .ok (.iload 4, 2) := wtJ5_reverse_278bc_24.2.2.2.2.2.2.2.2.2.2.1
theorem dJ5_reverse_278bc_42 : decode cJ5_reverse_278bc 42 = .ok (.baload, 1) := wtJ5_reverse_278bc_24.2.2.2.2.2.2.2.2.2.2.2.1
theorem dJ5_reverse_278bc_43 : decode cJ5_reverse_278bc 43 = .ok (.istore 6, 2) := wtJ5_reverse_278bc_24.2.2.2.2.2.2.2.2.2.2.2.2.1
theorem dJ5_reverse_278bc_45 : decode cJ5_reverse_278bc 45 = .ok (.aload_n 1, 1) := wtJ5_reverse_278bc_24.2.2.2.2.2.2.2.2.2.2.2.2.2.1
theorem dJ5_reverse_278bc_46 : decode cJ5_reverse_278bc 46 = .ok (.iload 4, 2) := wtJ5_reverse_278bc_24.2.2.2.2.2.2.2.2.2.2.2.2.2.2.1
theorem wtJ5_reverse_278bc_48 : dwcj cJ5_reverse_278bc 48 [(0, .aload_n 1, 1), (1, .iload 5, 2), (3, .baload, 1), (4, .bastore, 1), (5, .aload_n 1, 1), (6, .iload 5, 2), (8, .iload 6, 2), (10, .bastore, 1), (11, .iinc 4 (-1), 3), (14, .goto (-34), 3), (17, .goto 8, 3), (20, .aload_n 1, 1), (21, .iload_n 2, 1), (22, .invokestatic 358, 3)] := dw_all (l := [43, 21, 5, 51, 84, 43, 21, 5, 21, 6, 84, 132, 4, 255, 167, 255, 222, 167, 0, 8, 43, 28, 184, 1, 102]) (by decide +kernel)
theorem dJ5_reverse_278bc_48 : decode cJ5_reverse_278bc 48 = .ok (.aload_n 1, 1) := wtJ5_reverse_278bc_48.1
theorem dJ5_reverse_278bc_49 : decode cJ5_reverse_278bc 49 = .ok (.iload 5, 2) := wtJ5_reverse_278bc_48.2.1
theorem dJ5_reverse_278bc_51 : decode cJ5_reverse_278bc 51 = .ok (.baload, 1) := wtJ5_reverse_278bc_48.2.2.1
theorem dJ5_reverse_278bc_52 : decode cJ5_reverse_278bc 52 = .ok (.bastore, 1) := wtJ5_reverse_278bc_48.2.2.2.1
theorem dJ5_reverse_278bc_53 : decode cJ5_reverse_278bc 53 = .ok (.aload_n 1, 1) := wtJ5_reverse_278bc_48.2.2.2.2.1
theorem dJ5_reverse_278bc_54 : decode cJ5_reverse_278bc 54 = .ok (.iload 5, 2) := wtJ5_reverse_278bc_48.2.2.2.2.2.1
theorem dJ5_reverse_278bc_56 : decode cJ5_reverse_278bc 56 = .ok (.iload 6, 2) := wtJ5_reverse_278bc_48.2.2.2.2.2.2.1
theorem dJ5_reverse_278bc_58 : decode cJ5_reverse_278bc 58 = .ok (.bastore, 1) := wtJ5_reverse_278bc_48.2.2.2.2.2.2.2.1
theorem dJ5_reverse_278bc_59 : decode cJ5_reverse_278bc 59 = .ok (.iinc 4 (-1), 3) := wtJ5_reverse_278bc_48.2.2.2.2.2.2.2.2.1
theorem dJ5_reverse_278bc_62 : decode cJ5_reverse_278bc 62 = .ok (.goto (-34), 3) := wtJ5_reverse_278bc_48.2.2.2.2.2.2.2.2.2.1
theorem dJ5_reverse_278bc_65 : decode cJ5_reverse_278bc 65 = .ok (.goto 8, 3) := wtJ5_reverse_278bc_48.2.2.2.2.2.2.2.2.2.2.1
theorem dJ5_reverse_278bc_68 : decode cJ5_reverse_278bc 68 = .ok (.aload_n 1, 1) := wtJ5_reverse_278bc_48.2.2.2.2.2.2.2.2.2.2.2.1
theorem dJ5_reverse_278bc_69 : decode cJ5_reverse_278bc 69 = .ok (.iload_n 2, 1) := wtJ5_reverse_278bc_48.2.2.2.2.2.2.2.2.2.2.2.2.1
theorem dJ5_reverse_278bc_70 : decode cJ5_reverse_278bc 70 = .ok (.invokestatic 358, 3) := wtJ5_reverse_278bc_48.2.2.2.2.2.2.2.2.2.2.2.2.2.1
theorem wtJ5_reverse_278bc_73 : dwcj cJ5_reverse_278bc 73 [(0, .aload_n 0, 1), (1, .areturn, 1)] := dw_all (l := [42, 176]) (by decide +kernel)
theorem dJ5_reverse_278bc_73 : decode cJ5_reverse_278bc 73 = .ok (.aload_n 0, 1) := wtJ5_reverse_278bc_73.1
theorem dJ5_reverse_278bc_74 : decode cJ5_reverse_278bc 74 = .ok (.areturn, 1) := wtJ5_reverse_278bc_73.2.1
theorem wtJ5_getValue_6d5f1_0 : dwcj cJ5_getValue_6d5f1 0 [(0, .aload_n 0, 1), (1, .getfield 15, 3), (4, .areturn, 1)] := dw_all (l := [42, 180, 0, 15, 176]) (by decide +kernel)
theorem dJ5_getValue_6d5f1_0 : decode cJ5_getValue_6d5f1 0 = .ok (.aload_n 0, 1) := wtJ5_getValue_6d5f1_0.1
theorem dJ5_getValue_6d5f1_1 : decode cJ5_getValue_6d5f1 1 = .ok (.getfield 15, 3) := wtJ5_getValue_6d5f1_0.2.1
theorem dJ5_getValue_6d5f1_4 : decode cJ5_getValue_6d5f1 4 = .ok (.areturn, 1) := wtJ5_getValue_6d5f1_0.2.2.1
theorem wtJ5_isLatin1_aae02_0 : dwcj cJ5_isLatin1_aae02 0 [(0, .getstatic 18, 3), (3, .ifCond .eq 14, 3), (6, .aload_n 0, 1), (7, .getfield 22, 3), (10, .ifCond .ne 7, 3), (13, .iconst 1, 1), (14, .goto 4, 3), (17, .iconst 0, 1), (18, .ireturn, 1)] := dw_all (l := [178, 0, 18, 153, 0, 14, 42, 180, 0, 22, 154, 0, 7, 4, 167, 0, 4, 3, 172]) (by decide +kernel)
theorem dJ5_isLatin1_aae02_0 : decode cJ5_isLatin1_aae02 0 = .ok (.getstatic 18, 3) := wtJ5_isLatin1_aae02_0.1
theorem dJ5_isLatin1_aae02_3 : decode cJ5_isLatin1_aae02 3 = .ok (.ifCond .eq 14, 3) := wtJ5_isLatin1_aae02_0.2.1
theorem dJ5_isLatin1_aae02_6 : decode cJ5_isLatin1_aae02 6 = .ok (.aload_n 0, 1) := wtJ5_isLatin1_aae02_0.2.2.1
theorem dJ5_isLatin1_aae02_7 : decode cJ5_isLatin1_aae02 7 = .ok (.getfield 22, 3) := wtJ5_isLatin1_aae02_0.2.2.2.1
theorem dJ5_isLatin1_aae02_10 : decode cJ5_isLatin1_aae02 10 = .ok (.ifCond .ne 7, 3) := wtJ5_isLatin1_aae02_0.2.2.2.2.1
theorem dJ5_isLatin1_aae02_13 : decode cJ5_isLatin1_aae02 13 = .ok (.iconst 1, 1) := wtJ5_isLatin1_aae02_0.2.2.2.2.2.1
theorem dJ5_isLatin1_aae02_14 : decode cJ5_isLatin1_aae02 14 = .ok (.goto 4, 3) := wtJ5_isLatin1_aae02_0.2.2.2.2.2.2.1
theorem dJ5_isLatin1_aae02_17 : decode cJ5_isLatin1_aae02 17 = .ok (.iconst 0, 1) := wtJ5_isLatin1_aae02_0.2.2.2.2.2.2.2.1
theorem dJ5_isLatin1_aae02_18 : decode cJ5_isLatin1_aae02 18 = .ok (.ireturn, 1) := wtJ5_isLatin1_aae02_0.2.2.2.2.2.2.2.2.1
theorem wtJ5_inflateIfNeededFor_a7421_0 : dwcj cJ5_inflateIfNeededFor_a7421 0 [(0, .getstatic 18, 3), (3, .ifCond .eq 18, 3), (6, .aload_n 0, 1), (7, .getfield 22, 3), (10, .aload_n 1, 1), (11, .invokevirtual 40, 3), (14, .if_icmp .eq 7, 3), (17, .aload_n 0, 1), (18, .invokevirtual 195, 3), (21, .return_, 1)] := dw_all (l := [178, 0, 18, 153, 0, 18, 42, 180, 0, 22, 43, 182, 0, 40, 159, 0, 7, 42, 182, 0, 195, 177]) (by decide +kernel)
theorem dJ5_inflateIfNeededFor_a7421_0 : decode cJ5_inflateIfNeededFor_a7421 0 = .ok (.getstatic 18, 3) := wtJ5_inflateIfNeededFor_a7421_0.1
theorem dJ5_inflateIfNeededFor_a7421_3 : decode cJ5_inflateIfNeededFor_a7421 3 = .ok (.ifCond .eq 18, 3) := wtJ5_inflateIfNeededFor_a7421_0.2.1
theorem dJ5_inflateIfNeededFor_a7421_6 : decode cJ5_inflateIfNeededFor_a7421 6 = .ok (.aload_n 0, 1) := wtJ5_inflateIfNeededFor_a7421_0.2.2.1
theorem dJ5_inflateIfNeededFor_a7421_7 : decode cJ5_inflateIfNeededFor_a7421 7 = .ok (.getfield 22, 3) := wtJ5_inflateIfNeededFor_a7421_0.2.2.2.1
theorem dJ5_inflateIfNeededFor_a7421_10 : decode cJ5_inflateIfNeededFor_a7421 10 = .ok (.aload_n 1, 1) := wtJ5_inflateIfNeededFor_a7421_0.2.2.2.2.1
theorem dJ5_inflateIfNeededFor_a7421_11 : decode cJ5_inflateIfNeededFor_a7421 11 = .ok (.invokevirtual 40, 3) := wtJ5_inflateIfNeededFor_a7421_0.2.2.2.2.2.1
theorem dJ5_inflateIfNeededFor_a7421_14 : decode cJ5_inflateIfNeededFor_a7421 14 = .ok (.if_icmp .eq 7, 3) := wtJ5_inflateIfNeededFor_a7421_0.2.2.2.2.2.2.1
theorem dJ5_inflateIfNeededFor_a7421_17 : decode cJ5_inflateIfNeededFor_a7421 17 = .ok (.aload_n 0, 1) := wtJ5_inflateIfNeededFor_a7421_0.2.2.2.2.2.2.2.1
theorem dJ5_inflateIfNeededFor_a7421_18 : decode cJ5_inflateIfNeededFor_a7421 18 = .ok (.invokevirtual 195, 3) := wtJ5_inflateIfNeededFor_a7421_0.2.2.2.2.2.2.2.2.1
theorem dJ5_inflateIfNeededFor_a7421_21 : decode cJ5_inflateIfNeededFor_a7421 21 = .ok (.return_, 1) := wtJ5_inflateIfNeededFor_a7421_0.2.2.2.2.2.2.2.2.2.1
theorem wtJ5_putStringAt_47b60_0 : dwcj cJ5_putStringAt_47b60 0 [(0, .aload_n 0, 1), (1, .aload_n 2, 1), (2, .invokevirtual 397, 3), (5, .aload_n 2, 1), (6, .aload_n 0, 1), (7, .getfield 15, 3), (10, .iload_n 1, 1), (11, .aload_n 0, 1), (12, .getfield 22, 3), (15, .invokevirtual 399, 3), (18, .return_, 1)] := dw_all (l := [42, 44, 182, 1, 141, 44, 42, 180, 0, 15, 27, 42, 180, 0, 22, 182, 1, 143, 177]) (by decide +kernel)
theorem dJ5_putStringAt_47b60_0 : decode cJ5_putStringAt_47b60 0 = .ok (.aload_n 0, 1) := wtJ5_putStringAt_47b60_0.1
theorem dJ5_putStringAt_47b60_1 : decode cJ5_putStringAt_47b60 1 = .ok (.aload_n 2, 1) := wtJ5_putStringAt_47b60_0.2.1
theorem dJ5_putStringAt_47b60_2 : decode cJ5_putStringAt_47b60 2 = .ok (.invokevirtual 397, 3) := wtJ5_putStringAt_47b60_0.2.2.1
theorem dJ5_putStringAt_47b60_5 : decode cJ5_putStringAt_47b60 5 = .ok (.aload_n 2, 1) := wtJ5_putStringAt_47b60_0.2.2.2.1
theorem dJ5_putStringAt_47b60_6 : decode cJ5_putStringAt_47b60 6 = .ok (.aload_n 0, 1) := wtJ5_putStringAt_47b60_0.2.2.2.2.1
theorem dJ5_putStringAt_47b60_7 : decode cJ5_putStringAt_47b60 7 = .ok (.getfield 15, 3) := wtJ5_putStringAt_47b60_0.2.2.2.2.2.1
theorem dJ5_putStringAt_47b60_10 : decode cJ5_putStringAt_47b60 10 = .ok (.iload_n 1, 1) := wtJ5_putStringAt_47b60_0.2.2.2.2.2.2.1
theorem dJ5_putStringAt_47b60_11 : decode cJ5_putStringAt_47b60 11 = .ok (.aload_n 0, 1) := wtJ5_putStringAt_47b60_0.2.2.2.2.2.2.2.1
theorem dJ5_putStringAt_47b60_12 : decode cJ5_putStringAt_47b60 12 = .ok (.getfield 22, 3) := wtJ5_putStringAt_47b60_0.2.2.2.2.2.2.2.2.1
theorem dJ5_putStringAt_47b60_15 : decode cJ5_putStringAt_47b60 15 = .ok (.invokevirtual 399, 3) := wtJ5_putStringAt_47b60_0.2.2.2.2.2.2.2.2.2.1
theorem dJ5_putStringAt_47b60_18 : decode cJ5_putStringAt_47b60 18 = .ok (.return_, 1) := wtJ5_putStringAt_47b60_0.2.2.2.2.2.2.2.2.2.2.1
theorem wtJ6_getChars_ba4f3_0 : dwcj cJ6_getChars_ba4f3 0 [(0, .iload_n 1, 1), (1, .istore 5, 2), (3, .iload_n 0, 1), (4, .ifCond .ge 7, 3), (7, .iconst 1, 1), (8, .goto 4, 3), (11, .iconst 0, 1), (12, .istore 6, 2), (14, .iload 6, 2), (16, .ifCond .ne 6, 3), (19, .iload_n 0, 1), (20, .ineg, 1), (21, .istore_n 0, 1), (22, .iload_n 0, 1), (23, .bipush (-100), 2)] := dw_all (l := [27, 54, 5, 26, 156, 0, 7, 4, 167, 0, 4, 3, 54, 6, 21, 6, 154, 0, 6, 26, 116, 59, 26, 16, 156]) (by decide +kernel)
theorem dJ6_getChars_ba4f3_0 : decode cJ6_getChars_ba4f3 0 = .ok (.iload_n 1, 1) := wtJ6_getChars_ba4f3_0.1
theorem dJ6_getChars_ba4f3_1 : decode cJ6_getChars_ba4f3 1 = .ok (.istore 5, 2) := wtJ6_getChars_ba4f3_0.2.1
theorem dJ6_getChars_ba4f3_3 : decode cJ6_getChars_ba4f3 3 = .ok (.iload_n 0, 1) := wtJ6_getChars_ba4f3_0.2.2.1
theorem dJ6_getChars_ba4f3_4 : decode cJ6_getChars_ba4f3 4 = .ok (.ifCond .ge 7, 3) := wtJ6_getChars_ba4f3_0.2.2.2.1
theorem dJ6_getChars_ba4f3_7 : decode cJ6_getChars_ba4f3 7 = .ok (.iconst 1, 1) := wtJ6_getChars_ba4f3_0.2.2.2.2.1
theorem dJ6_getChars_ba4f3_8 : decode cJ6_getChars_ba4f3 8 = .ok (.goto 4, 3) := wtJ6_getChars_ba4f3_0.2.2.2.2.2.1
theorem dJ6_getChars_ba4f3_11 : decode cJ6_getChars_ba4f3 11 = .ok (.iconst 0, 1) := wtJ6_getChars_ba4f3_0.2.2.2.2.2.2.1
theorem dJ6_getChars_ba4f3_12 : decode cJ6_getChars_ba4f3 12 = .ok (.istore 6, 2) := wtJ6_getChars_ba4f3_0.2.2.2.2.2.2.2.1
theorem dJ6_getChars_ba4f3_14 : decode cJ6_getChars_ba4f3 14 = .ok (.iload 6, 2) := wtJ6_getChars_ba4f3_0.2.2.2.2.2.2.2.2.1
theorem dJ6_getChars_ba4f3_16 : decode cJ6_getChars_ba4f3 16 = .ok (.ifCond .ne 6, 3) := wtJ6_getChars_ba4f3_0.2.2.2.2.2.2.2.2.2.1
theorem dJ6_getChars_ba4f3_19 : decode cJ6_getChars_ba4f3 19 = .ok (.iload_n 0, 1) := wtJ6_getChars_ba4f3_0.2.2.2.2.2.2.2.2.2.2.1
theorem dJ6_getChars_ba4f3_20 : decode cJ6_getChars_ba4f3 20 = .ok (.ineg, 1) := wtJ6_getChars_ba4f3_0.2.2.2.2.2.2.2.2.2.2.2.1
theorem dJ6_getChars_ba4f3_21 : decode cJ6_getChars_ba4f3 21 = .ok (.istore_n 0, 1) := wtJ6_getChars_ba4f3_0.2.2.2.2.2.2.2.2.2.2.2.2.1
theorem dJ6_getChars_ba4f3_22 : decode cJ6_getChars_ba4f3 22 = .ok (.iload_n 0, 1) := wtJ6_getChars_ba4f3_0.2.2.2.2.2.2.2.2.2.2.2.2.2.1
theorem dJ6_getChars_ba4f3_23 : decode cJ6_getChars_ba4f3 23 = .ok (.bipush (-100), 2) := wtJ6_getChars_ba4f3_0.2.2.2.2.2.2.2.2.2.2.2.2.2.2.1
theorem wtJ6_getChars_ba4f3_25 : dwcj cJ6_getChars_ba4f3 25 [(0, .if_icmp .gt 47, 3), (3, .iload_n 0, 1), (4, .bipush 100, 2), (6, .idiv, 1), (7, .istore_n 3, 1), (8, .iload_n 3, 1), (9, .bipush 100, 2), (11, .imul, 1), (12, .iload_n 0, 1), (13, .isub, 1), (14, .istore 4, 2), (16, .iload_n 3, 1), (17, .istore_n 0, 1), (18, .aload_n 2, 1), (19, .iinc 5 (-1), 3), (22, .iload 5, 2)] := dw_all (l := [163, 0, 47, 26, 16, 100, 108, 62, 29, 16, 100, 104, 26, 100, 54, 4, 29, 59, 44, 132, 5, 255, 21, 5]) (by decide +kernel)
theorem dJ6_getChars_ba4f3_25 : decode cJ6_getChars_ba4f3 25 = .ok (.if_icmp .gt 47, 3) := wtJ6_getChars_ba4f3_25.1
theorem dJ6_getChars_ba4f3_28 : decode cJ6_getChars_ba4f3 28 = .ok (.iload_n 0, 1) := wtJ6_getChars_ba4f3_25.2.1
theorem dJ6_getChars_ba4f3_29 : decode cJ6_getChars_ba4f3 29 = .ok (.bipush 100, 2) := wtJ6_getChars_ba4f3_25.2.2.1
theorem dJ6_getChars_ba4f3_31 : decode cJ6_getChars_ba4f3 31 = .ok (.idiv, 1) := wtJ6_getChars_ba4f3_25.2.2.2.1
theorem dJ6_getChars_ba4f3_32 : decode cJ6_getChars_ba4f3 32 = .ok (.istore_n 3, 1) := wtJ6_getChars_ba4f3_25.2.2.2.2.1
theorem dJ6_getChars_ba4f3_33 : decode cJ6_getChars_ba4f3 33 = .ok (.iload_n 3, 1) := wtJ6_getChars_ba4f3_25.2.2.2.2.2.1
theorem dJ6_getChars_ba4f3_34 : decode cJ6_getChars_ba4f3 34 = .ok (.bipush 100, 2) := wtJ6_getChars_ba4f3_25.2.2.2.2.2.2.1
theorem dJ6_getChars_ba4f3_36 : decode cJ6_getChars_ba4f3 36 = .ok (.imul, 1) := wtJ6_getChars_ba4f3_25.2.2.2.2.2.2.2.1
theorem dJ6_getChars_ba4f3_37 : decode cJ6_getChars_ba4f3 37 = .ok (.iload_n 0, 1) := wtJ6_getChars_ba4f3_25.2.2.2.2.2.2.2.2.1
theorem dJ6_getChars_ba4f3_38 : decode cJ6_getChars_ba4f3 38 = .ok (.isub, 1) := wtJ6_getChars_ba4f3_25.2.2.2.2.2.2.2.2.2.1
theorem dJ6_getChars_ba4f3_39 : decode cJ6_getChars_ba4f3 39 = .ok (.istore 4, 2) := wtJ6_getChars_ba4f3_25.2.2.2.2.2.2.2.2.2.2.1
theorem dJ6_getChars_ba4f3_41 : decode cJ6_getChars_ba4f3 41 = .ok (.iload_n 3, 1) := wtJ6_getChars_ba4f3_25.2.2.2.2.2.2.2.2.2.2.2.1
theorem dJ6_getChars_ba4f3_42 : decode cJ6_getChars_ba4f3 42 = .ok (.istore_n 0, 1) := wtJ6_getChars_ba4f3_25.2.2.2.2.2.2.2.2.2.2.2.2.1
theorem dJ6_getChars_ba4f3_43 : decode cJ6_getChars_ba4f3 43 = .ok (.aload_n 2, 1) := wtJ6_getChars_ba4f3_25.2.2.2.2.2.2.2.2.2.2.2.2.2.1
theorem dJ6_getChars_ba4f3_44 : decode cJ6_getChars_ba4f3 44 = .ok (.iinc 5 (-1), 3) := wtJ6_getChars_ba4f3_25.2.2.2.2.2.2.2.2.2.2.2.2.2.2.1
theorem dJ6_getChars_ba4f3_47 : decode cJ6_getChars_ba4f3 47 = .ok (.iload 5, 2) := wtJ6_getChars_ba4f3_25.2.2.2.2.2.2.2.2.2.2.2.2.2.2.2.1
theorem wtJ6_getChars_ba4f3_49 : dwcj cJ6_getChars_ba4f3 49 [(0, .getstatic 83, 3), (3, .iload 4, 2), (5, .baload, 1), (6, .bastore, 1), (7, .aload_n 2, 1), (8, .iinc 5 (-1), 3), (11, .iload 5, 2), (13, .getstatic 87, 3), (16, .iload 4, 2), (18, .baload, 1), (19, .bastore, 1), (20, .goto (-47), 3), (23, .aload_n 2, 1)] := dw_all (l := [178, 0, 83, 21, 4, 51, 84, 44, 132, 5, 255, 21, 5, 178, 0, 87, 21, 4, 51, 84, 167, 255, 209, 44]) (by decide +kernel)
theorem dJ6_getChars_ba4f3_49 : decode cJ6_getChars_ba4f3 49 = .ok (.getstatic 83, 3) := wtJ6_getChars_ba4f3_49.1
theorem dJ6_getChars_ba4f3_52 : decode cJ6_getChars_ba4f3 52 = .ok (.iload 4, 2) := wtJ6_getChars_ba4f3_49.2.1
theorem dJ6_getChars_ba4f3_54 : decode cJ6_getChars_ba4f3 54 = .ok (.baload, 1) := wtJ6_getChars_ba4f3_49.2.2.1
theorem dJ6_getChars_ba4f3_55 : decode cJ6_getChars_ba4f3 55 = .ok (.bastore, 1) := wtJ6_getChars_ba4f3_49.2.2.2.1
theorem dJ6_getChars_ba4f3_56 : decode cJ6_getChars_ba4f3 56 = .ok (.aload_n 2, 1) := wtJ6_getChars_ba4f3_49.2.2.2.2.1
theorem dJ6_getChars_ba4f3_57 : decode cJ6_getChars_ba4f3 57 = .ok (.iinc 5 (-1), 3) := wtJ6_getChars_ba4f3_49.2.2.2.2.2.1
theorem dJ6_getChars_ba4f3_60 : decode cJ6_getChars_ba4f3 60 = .ok (.iload 5, 2) := wtJ6_getChars_ba4f3_49.2.2.2.2.2.2.1
theorem dJ6_getChars_ba4f3_62 : decode cJ6_getChars_ba4f3 62 = .ok (.getstatic 87, 3) := wtJ6_getChars_ba4f3_49.2.2.2.2.2.2.2.1
theorem dJ6_getChars_ba4f3_65 : decode cJ6_getChars_ba4f3 65 = .ok (.iload 4, 2) := wtJ6_getChars_ba4f3_49.2.2.2.2.2.2.2.2.1
theorem dJ6_getChars_ba4f3_67 : decode cJ6_getChars_ba4f3 67 = .ok (.baload, 1) := wtJ6_getChars_ba4f3_49.2.2.2.2.2.2.2.2.2.1
theorem dJ6_getChars_ba4f3_68 : decode cJ6_getChars_ba4f3 68 = .ok (.bastore, 1) := wtJ6_getChars_ba4f3_49.2.2.2.2.2.2.2.2.2.2.1
theorem dJ6_getChars_ba4f3_69 : decode cJ6_getChars_ba4f3 69 = .ok (.goto (-47), 3) := wtJ6_getChars_ba4f3_49.2.2.2.2.2.2.2.2.2.2.2.1
theorem dJ6_getChars_ba4f3_72 : decode cJ6_getChars_ba4f3 72 = .ok (.aload_n 2, 1) := wtJ6_getChars_ba4f3_49.2.2.2.2.2.2.2.2.2.2.2.2.1
theorem wtJ6_getChars_ba4f3_73 : dwcj cJ6_getChars_ba4f3 73 [(0, .iinc 5 (-1), 3), (3, .iload 5, 2), (5, .getstatic 83, 3), (8, .iload_n 0, 1), (9, .ineg, 1), (10, .baload, 1), (11, .bastore, 1), (12, .iload_n 0, 1), (13, .bipush (-9), 2), (15, .if_icmp .ge 16, 3), (18, .aload_n 2, 1), (19, .iinc 5 (-1), 3), (22, .iload 5, 2)] := dw_all (l := [132, 5, 255, 21, 5, 178, 0, 83, 26, 116, 51, 84, 26, 16, 247, 162, 0, 16, 44, 132, 5, 255, 21, 5]) (by decide +kernel)
theorem dJ6_getChars_ba4f3_73 : decode cJ6_getChars_ba4f3 73 = .ok (.iinc 5 (-1), 3) := wtJ6_getChars_ba4f3_73.1
theorem dJ6_getChars_ba4f3_76 : decode cJ6_getChars_ba4f3 76 = .ok (.iload 5, 2) := wtJ6_getChars_ba4f3_73.2.1
theorem dJ6_getChars_ba4f3_78 : decode cJ6_getChars_ba4f3 78 = .ok (.getstatic 83, 3) := wtJ6_getChars_ba4f3_73.2.2.1
theorem dJ6_getChars_ba4f3_81 : decode cJ6_getChars_ba4f3 81 = .ok (.iload_n 0, 1) := wtJ6_getChars_ba4f3_73.2.2.2.1
theorem dJ6_getChars_ba4f3_82 : decode cJ6_getChars_ba4f3 82 = .ok (.ineg, 1) := wtJ6_getChars_ba4f3_73.2.2.2.2.1
theorem dJ6_getChars_ba4f3_83 : decode cJ6_getChars_ba4f3 83 = .ok (.baload, 1) := wtJ6_getChars_ba4f3_73.2.2.2.2.2.1
theorem dJ6_getChars_ba4f3_84 : decode cJ6_getChars_ba4f3 84 = .ok (.bastore, 1) := wtJ6_getChars_ba4f3_73.2.2.2.2.2.2.1
theorem dJ6_getChars_ba4f3_85 : decode cJ6_getChars_ba4f3 85 = .ok (.iload_n 0, 1) := wtJ6_getChars_ba4f3_73.2.2.2.2.2.2.2.1
theorem dJ6_getChars_ba4f3_86 : decode cJ6_getChars_ba4f3 86 = .ok (.bipush (-9), 2) := wtJ6_getChars_ba4f3_73.2.2.2.2.2.2.2.2.1
theorem dJ6_getChars_ba4f3_88 : decode cJ6_getChars_ba4f3 88 = .ok (.if_icmp .ge 16, 3) := wtJ6_getChars_ba4f3_73.2.2.2.2.2.2.2.2.2.1
theorem dJ6_getChars_ba4f3_91 : decode cJ6_getChars_ba4f3 91 = .ok (.aload_n 2, 1) := wtJ6_getChars_ba4f3_73.2.2.2.2.2.2.2.2.2.2.1
theorem dJ6_getChars_ba4f3_92 : decode cJ6_getChars_ba4f3 92 = .ok (.iinc 5 (-1), 3) := wtJ6_getChars_ba4f3_73.2.2.2.2.2.2.2.2.2.2.2.1
theorem dJ6_getChars_ba4f3_95 : decode cJ6_getChars_ba4f3 95 = .ok (.iload 5, 2) := wtJ6_getChars_ba4f3_73.2.2.2.2.2.2.2.2.2.2.2.2.1
theorem wtJ6_getChars_ba4f3_97 : dwcj cJ6_getChars_ba4f3 97 [(0, .getstatic 87, 3), (3, .iload_n 0, 1), (4, .ineg, 1), (5, .baload, 1), (6, .bastore, 1), (7, .iload 6, 2), (9, .ifCond .eq 12, 3), (12, .aload_n 2, 1), (13, .iinc 5 (-1), 3), (16, .iload 5, 2), (18, .bipush 45, 2), (20, .bastore, 1), (21, .iload 5, 2), (23, .ireturn, 1)] := dw_all (l := [178, 0, 87, 26, 116, 51, 84, 21, 6, 153, 0, 12, 44, 132, 5, 255, 21, 5, 16, 45, 84, 21, 5, 172]) (by decide +kernel)
theorem dJ6_getChars_ba4f3_97 : decode cJ6_getChars_ba4f3 97 = .ok (.getstatic 87, 3) := wtJ6_getChars_ba4f3_97.1
theorem dJ6_getChars_ba4f3_100 : decode cJ6_getChars_ba4f3 100 = .ok (.iload_n 0, 1) := wtJ6_getChars_ba4f3_97.2.1
theorem dJ6_getChars_ba4f3_101 : decode cJ6_getChars_ba4f3 101 = .ok (.ineg, 1) := wtJ6_getChars_ba4f3_97.2.2.1
theorem dJ6_getChars_ba4f3_102 : decode cJ6_getChars_ba4f3 102 = .ok (.baload, 1) := wtJ6_getChars_ba4f3_97.2.2.2.1
theorem dJ6_getChars_ba4f3_103 : decode cJ6_getChars_ba4f3 103 = .ok (.bastore, 1) := wtJ6_getChars_ba4f3_97.2.2.2.2.1
theorem dJ6_getChars_ba4f3_104 : decode cJ6_getChars_ba4f3 104 = .ok (.iload 6, 2) := wtJ6_getChars_ba4f3_97.2.2.2.2.2.1
theorem dJ6_getChars_ba4f3_106 : decode cJ6_getChars_ba4f3 106 = .ok (.ifCond .eq 12, 3) := wtJ6_getChars_ba4f3_97.2.2.2.2.2.2.1
theorem dJ6_getChars_ba4f3_109 : decode cJ6_getChars_ba4f3 109 = .ok (.aload_n 2, 1) := wtJ6_getChars_ba4f3_97.2.2.2.2.2.2.2.1
theorem dJ6_getChars_ba4f3_110 : decode cJ6_getChars_ba4f3 110 = .ok (.iinc 5 (-1), 3) := wtJ6_getChars_ba4f3_97.2.2.2.2.2.2.2.2.1
theorem dJ6_getChars_ba4f3_113 : decode cJ6_getChars_ba4f3 113 = .ok (.iload 5, 2) := wtJ6_getChars_ba4f3_97.2.2.2.2.2.2.2.2.2.1
theorem dJ6_getChars_ba4f3_115 : decode cJ6_getChars_ba4f3 115 = .ok (.bipush 45, 2) := wtJ6_getChars_ba4f3_97.2.2.2.2.2.2.2.2.2.2.1
theorem dJ6_getChars_ba4f3_117 : decode cJ6_getChars_ba4f3 117 = .ok (.bastore, 1) := wtJ6_getChars_ba4f3_97.2.2.2.2.2.2.2.2.2.2.2.1
theorem dJ6_getChars_ba4f3_118 : decode cJ6_getChars_ba4f3 118 = .ok (.iload 5, 2) := wtJ6_getChars_ba4f3_97.2.2.2.2.2.2.2.2.2.2.2.2.1
theorem dJ6_getChars_ba4f3_120 : decode cJ6_getChars_ba4f3 120 = .ok (.ireturn, 1) := wtJ6_getChars_ba4f3_97.2.2.2.2.2.2.2.2.2.2.2.2.2.1
theorem wtJ6_stringSize_0f7a4_0 : dwcj cJ6_stringSize_0f7a4 0 [(0, .iconst 1, 1), (1, .istore_n 1, 1), (2, .iload_n 0, 1), (3, .ifCond .lt 8, 3), (6, .iconst 0, 1), (7, .istore_n 1, 1), (8, .iload_n 0, 1), (9, .ineg, 1), (10, .istore_n 0, 1), (11, .bipush (-10), 2), (13, .istore_n 2, 1), (14, .iconst 1, 1), (15, .istore_n 3, 1), (16, .iload_n 3, 1), (17, .bipush 10, 2), (19, .if_icmp .ge 23, 3), (22, .iload_n 0, 1), (23, .iload_n 2, 1)] := dw_all (l := [4, 60, 26, 155, 0, 8, 3, 60, 26, 116, 59, 16, 246, 61, 4, 62, 29, 16, 10, 162, 0, 23, 26, 28]) (by decide +kernel)
theorem dJ6_stringSize_0f7a4_0 : decode cJ6_stringSize_0f7a4 0 = .ok (.iconst 1, 1) := wtJ6_stringSize_0f7a4_0.1
theorem dJ6_stringSize_0f7a4_1 : decode cJ6_stringSize_0f7a4 1 = .ok (.istore_n 1, 1) := wtJ6_stringSize_0f7a4_0.2.1
theorem dJ6_stringSize_0f7a4_2 : decode cJ6_stringSize_0f7a4 2 = .ok (.iload_n 0, 1) := wtJ6_stringSize_0f7a4_0.2.2.1
theorem dJ6_stringSize_0f7a4_3 : decode cJ6_stringSize_0f7a4 3 = .ok (.ifCond .lt 8, 3) := wtJ6_stringSize_0f7a4_0.2.2.2.1
theorem dJ6_stringSize_0f7a4_6 : decode cJ6_stringSize_0f7a4 6 = .ok (.iconst 0, 1) := wtJ6_stringSize_0f7a4_0.2.2.2.2.1
theorem dJ6_stringSize_0f7a4_7 : decode cJ6_stringSize_0f7a4 7 = .ok (.istore_n 1, 1) := wtJ6_stringSize_0f7a4_0.2.2.2.2.2.1
theorem dJ6_stringSize_0f7a4_8 : decode cJ6_stringSize_0f7a4 8 = .ok (.iload_n 0, 1) := wtJ6_stringSize_0f7a4_0.2.2.2.2.2.2.1
theorem dJ6_stringSize_0f7a4_9 : decode cJ6_stringSize_0f7a4 9 = .ok (.ineg, 1) := wtJ6_stringSize_0f7a4_0.2.2.2.2.2.2.2.1
theorem dJ6_stringSize_0f7a4_10 : decode cJ6_stringSize_0f7a4 10 = .ok (.istore_n 0, 1) := wtJ6_stringSize_0f7a4_0.2.2.2.2.2.2.2.2.1
theorem dJ6_stringSize_0f7a4_11 : decode cJ6_stringSize_0f7a4 11 = .ok (.bipush (-10), 2) := wtJ6_stringSize_0f7a4_0.2.2.2.2.2.2.2.2.2.1
theorem dJ6_stringSize_0f7a4_13 : decode cJ6_stringSize_0f7a4 13 = .ok (.istore_n 2, 1) := wtJ6_stringSize_0f7a4_0.2.2.2.2.2.2.2.2.2.2.1
theorem dJ6_stringSize_0f7a4_14 : decode cJ6_stringSize_0f7a4 14 = .ok (.iconst 1, 1) := wtJ6_stringSize_0f7a4_0.2.2.2.2.2.2.2.2.2.2.2.1
theorem dJ6_stringSize_0f7a4_15 : decode cJ6_stringSize_0f7a4 15 = .ok (.istore_n 3, 1) := wtJ6_stringSize_0f7a4_0.2.2.2.2.2.2.2.2.2.2.2.2.1
theorem dJ6_stringSize_0f7a4_16 : decode cJ6_stringSize_0f7a4 16 = .ok (.iload_n 3, 1) := wtJ6_stringSize_0f7a4_0.2.2.2.2.2.2.2.2.2.2.2.2.2.1
theorem dJ6_stringSize_0f7a4_17 : decode cJ6_stringSize_0f7a4 17 = .ok (.bipush 10, 2) := wtJ6_stringSize_0f7a4_0.2.2.2.2.2.2.2.2.2.2.2.2.2.2.1
theorem dJ6_stringSize_0f7a4_19 : decode cJ6_stringSize_0f7a4 19 = .ok (.if_icmp .ge 23, 3) := wtJ6_stringSize_0f7a4_0.2.2.2.2.2.2.2.2.2.2.2.2.2.2.2.1
theorem dJ6_stringSize_0f7a4_22 : decode cJ6_stringSize_0f7a4 22 = .ok (.iload_n 0, 1) := wtJ6_stringSize_0f7a4_0.2.2.2.2.2.2.2.2.2.2.2.2.2.2.2.2.1
theorem dJ6_stringSize_0f7a4_23 : decode cJ6_stringSize_0f7a4 23 = .ok (.iload_n 2, 1) := wtJ6_stringSize_0f7a4_0.2.2.2.2.2.2.2.2.2.2.2.2.2.2.2.2.2.1
theorem wtJ6_stringSize_0f7a4_24 : dwcj cJ6_stringSize_0f7a4 24 [(0, .if_icmp .le 7, 3), (3, .iload_n 3, 1), (4, .iload_n 1, 1), (5, .iadd, 1), (6, .ireturn, 1), (7, .bipush 10, 2), (9, .iload_n 2, 1), (10, .imul, 1), (11, .istore_n 2, 1), (12, .iinc 3 1, 3), (15, .goto (-23), 3), (18, .bipush 10, 2), (20, .iload_n 1, 1), (21, .iadd, 1), (22, .ireturn, 1)] := dw_all (l := [164, 0, 7, 29, 27, 96, 172, 16, 10, 28, 104, 61, 132, 3, 1, 167, 255, 233, 16, 10, 27, 96, 172]) (by decide +kernel)
theorem dJ6_stringSize_0f7a4_24 : decode cJ6_stringSize_0f7a4 24 = .ok (.if_icmp .le 7, 3) := wtJ6_stringSize_0f7a4_24.1
theorem dJ6_stringSize_0f7a4_27 : decode cJ6_stringSize_0f7a4 27 = .ok (.iload_n 3, 1) := wtJ6_stringSize_0f7a4_24.2.1
theorem dJ6_stringSize_0f7a4_28 : decode cJ6_stringSize_0f7a4 28 = .ok (.iload_n 1, 1) := wtJ6_stringSize_0f7a4_24.2.2.1
theorem dJ6_stringSize_0f7a4_29 : decode cJ6_stringSize_0f7a4 29 = .ok (.iadd, 1) := wtJ6_stringSize_0f7a4_24.2.2.2.1
theorem dJ6_stringSize_0f7a4_30 : decode cJ6_stringSize_0f7a4 30 = .ok (.ireturn, 1) := wtJ6_stringSize_0f7a4_24.2.2.2.2.1
theorem dJ6_stringSize_0f7a4_31 : decode cJ6_stringSize_0f7a4 31 = .ok (.bipush 10, 2) := wtJ6_stringSize_0f7a4_24.2.2.2.2.2.1
theorem dJ6_stringSize_0f7a4_33 : decode cJ6_stringSize_0f7a4 33 = .ok (.iload_n 2, 1) := wtJ6_stringSize_0f7a4_24.2.2.2.2.2.2.1
theorem dJ6_stringSize_0f7a4_34 : decode cJ6_stringSize_0f7a4 34 = .ok (.imul, 1) := wtJ6_stringSize_0f7a4_24.2.2.2.2.2.2.2.1
theorem dJ6_stringSize_0f7a4_35 : decode cJ6_stringSize_0f7a4 35 = .ok (.istore_n 2, 1) := wtJ6_stringSize_0f7a4_24.2.2.2.2.2.2.2.2.1
theorem dJ6_stringSize_0f7a4_36 : decode cJ6_stringSize_0f7a4 36 = .ok (.iinc 3 1, 3) := wtJ6_stringSize_0f7a4_24.2.2.2.2.2.2.2.2.2.1
theorem dJ6_stringSize_0f7a4_39 : decode cJ6_stringSize_0f7a4 39 = .ok (.goto (-23), 3) := wtJ6_stringSize_0f7a4_24.2.2.2.2.2.2.2.2.2.2.1
theorem dJ6_stringSize_0f7a4_42 : decode cJ6_stringSize_0f7a4 42 = .ok (.bipush 10, 2) := wtJ6_stringSize_0f7a4_24.2.2.2.2.2.2.2.2.2.2.2.1
theorem dJ6_stringSize_0f7a4_44 : decode cJ6_stringSize_0f7a4 44 = .ok (.iload_n 1, 1) := wtJ6_stringSize_0f7a4_24.2.2.2.2.2.2.2.2.2.2.2.2.1
theorem dJ6_stringSize_0f7a4_45 : decode cJ6_stringSize_0f7a4 45 = .ok (.iadd, 1) := wtJ6_stringSize_0f7a4_24.2.2.2.2.2.2.2.2.2.2.2.2.2.1
theorem dJ6_stringSize_0f7a4_46 : decode cJ6_stringSize_0f7a4 46 = .ok (.ireturn, 1) := wtJ6_stringSize_0f7a4_24.2.2.2.2.2.2.2.2.2.2.2.2.2.2.1
theorem wtJ13_bitCount_95d88_0 : dwcj cJ13_bitCount_95d88 0 [(0, .lload_n 0, 1), (1, .lload_n 0, 1), (2, .iconst 1, 1), (3, .lushr, 1), (4, .ldc2_w 314, 3), (7, .land, 1), (8, .lsub, 1), (9, .lstore_n 0, 1), (10, .lload_n 0, 1), (11, .ldc2_w 316, 3), (14, .land, 1), (15, .lload_n 0, 1), (16, .iconst 2, 1), (17, .lushr, 1), (18, .ldc2_w 316, 3), (21, .land, 1), (22, .ladd, 1), (23, .lstore_n 0, 1)] := dw_all (l := [30, 30, 4, 125, 20, 1, 58, 127, 101, 63, 30, 20, 1, 60, 127, 30, 5, 125, 20, 1, 60, 127, 97, 63]) (by decide +kernel)
theorem dJ13_bitCount_95d88_0 : decode cJ13_bitCount_95d88 0 = .ok (.lload_n 0, 1) := wtJ13_bitCount_95d88_0.1
theorem dJ13_bitCount_95d88_1 : decode cJ13_bitCount_95d88 1 = .ok (.lload_n 0, 1) := wtJ13_bitCount_95d88_0.2.1
theorem dJ13_bitCount_95d88_2 : decode cJ13_bitCount_95d88 2 = .ok (.iconst 1, 1) := wtJ13_bitCount_95d88_0.2.2.1
theorem dJ13_bitCount_95d88_3 : decode cJ13_bitCount_95d88 3 = .ok (.lushr, 1) := wtJ13_bitCount_95d88_0.2.2.2.1
theorem dJ13_bitCount_95d88_4 : decode cJ13_bitCount_95d88 4 = .ok (.ldc2_w 314, 3) := wtJ13_bitCount_95d88_0.2.2.2.2.1
theorem dJ13_bitCount_95d88_7 : decode cJ13_bitCount_95d88 7 = .ok (.land, 1) := wtJ13_bitCount_95d88_0.2.2.2.2.2.1
theorem dJ13_bitCount_95d88_8 : decode cJ13_bitCount_95d88 8 = .ok (.lsub, 1) := wtJ13_bitCount_95d88_0.2.2.2.2.2.2.1
theorem dJ13_bitCount_95d88_9 : decode cJ13_bitCount_95d88 9 = .ok (.lstore_n 0, 1) := wtJ13_bitCount_95d88_0.2.2.2.2.2.2.2.1
theorem dJ13_bitCount_95d88_10 : decode cJ13_bitCount_95d88 10 = .ok (.lload_n 0, 1) := wtJ13_bitCount_95d88_0.2.2.2.2.2.2.2.2.1
theorem dJ13_bitCount_95d88_11 : decode cJ13_bitCount_95d88 11 = .ok (.ldc2_w 316, 3) := wtJ13_bitCount_95d88_0.2.2.2.2.2.2.2.2.2.1
theorem dJ13_bitCount_95d88_14 : decode cJ13_bitCount_95d88 14 = .ok (.land, 1) := wtJ13_bitCount_95d88_0.2.2.2.2.2.2.2.2.2.2.1
theorem dJ13_bitCount_95d88_15 : decode cJ13_bitCount_95d88 15 = .ok (.lload_n 0, 1) := wtJ13_bitCount_95d88_0.2.2.2.2.2.2.2.2.2.2.2.1
theorem dJ13_bitCount_95d88_16 : decode cJ13_bitCount_95d88 16 = .ok (.iconst 2, 1) := wtJ13_bitCount_95d88_0.2.2.2.2.2.2.2.2.2.2.2.2.1
theorem dJ13_bitCount_95d88_17 : decode cJ13_bitCount_95d88 17 = .ok (.lushr, 1) := wtJ13_bitCount_95d88_0.2.2.2.2.2.2.2.2.2.2.2.2.2.1
theorem dJ13_bitCount_95d88_18 : decode cJ13_bitCount_95d88 18 = .ok (.ldc2_w 316, 3) := wtJ13_bitCount_95d88_0.2.2.2.2.2.2.2.2.2.2.2.2.2.2.1
theorem dJ13_bitCount_95d88_21 : decode cJ13_bitCount_95d88 21 = .ok (.land, 1) := wtJ13_bitCount_95d88_0.2.2.2.2.2.2.2.2.2.2.2.2.2.2.2.1
theorem dJ13_bitCount_95d88_22 : decode cJ13_bitCount_95d88 22 = .ok (.ladd, 1) := wtJ13_bitCount_95d88_0.2.2.2.2.2.2.2.2.2.2.2.2.2.2.2.2.1
theorem dJ13_bitCount_95d88_23 : decode cJ13_bitCount_95d88 23 = .ok (.lstore_n 0, 1) := wtJ13_bitCount_95d88_0.2.2.2.2.2.2.2.2.2.2.2.2.2.2.2.2.2.1
theorem wtJ13_bitCount_95d88_24 : dwcj cJ13_bitCount_95d88 24 [(0, .lload_n 0, 1), (1, .lload_n 0, 1), (2, .iconst 4, 1), (3, .lushr, 1), (4, .ladd, 1), (5, .ldc2_w 318, 3), (8, .land, 1), (9, .lstore_n 0, 1), (10, .lload_n 0, 1), (11, .lload_n 0, 1), (12, .bipush 8, 2), (14, .lushr, 1), (15, .ladd, 1), (16, .lstore_n 0, 1), (17, .lload_n 0, 1), (18, .lload_n 0, 1), (19, .bipush 16, 2), (21, .lushr, 1), (22, .ladd, 1), (23, .lstore_n 0, 1)] := dw_all (l := [30, 30, 7, 125, 97, 20, 1, 62, 127, 63, 30, 30, 16, 8, 125, 97, 63, 30, 30, 16, 16, 125, 97, 63]) (by decide +kernel)
theorem dJ13_bitCount_95d88_24 : decode cJ13_bitCount_95d88 24 = .ok (.lload_n 0, 1) := wtJ13_bitCount_95d88_24.1
theorem dJ13_bitCount_95d88_25 : decode cJ13_bitCount_95d88 25 = .ok (.lload_n 0, 1) := wtJ13_bitCount_95d88_24.2.1
theorem dJ13_bitCount_95d88_26 : decode cJ13_bitCount_95d88 26 = .ok (.iconst 4, 1) := wtJ13_bitCount_95d88_24.2.2.1
theorem dJ13_bitCount_95d88_27 : decode cJ13_bitCount_95d88 27 = .ok (.lushr, 1) := wtJ13_bitCount_95d88_24.2.2.2.1
theorem dJ13_bitCount_95d88_28 : decode cJ13_bitCount_95d88 28 = .ok (.ladd, 1) := wtJ13_bitCount_95d88_24.2.2.2.2.1
theorem dJ13_bitCount_95d88_29 : decode cJ13_bitCount_95d88 29 = .ok (.ldc2_w 318, 3) := wtJ13_bitCount_95d88_24.2.2.2.2.2.1
theorem dJ13_bitCount_95d88_32 : decode cJ13_bitCount_95d88 32 = .ok (.land, 1) := wtJ13_bitCount_95d88_24.2.2.2.2.2.2.1
theorem dJ13_bitCount_95d88_33 : decode cJ13_bitCount_95d88 33 = .ok (.lstore_n 0, 1) := wtJ13_bitCount_95d88_24.2.2.2.2.2.2.2.1
theorem dJ13_bitCount_95d88_34 : decode cJ13_bitCount_95d88 34 = .ok (.lload_n 0, 1) := wtJ13_bitCount_95d88_24.2.2.2.2.2.2.2.2.1
theorem dJ13_bitCount_95d88_35 : decode cJ13_bitCount_95d88 35 = .ok (.lload_n 0, 1) := wtJ13_bitCount_95d88_24.2.2.2.2.2.2.2.2.2.1
theorem dJ13_bitCount_95d88_36 : decode cJ13_bitCount_95d88 36 = .ok (.bipush 8, 2) := wtJ13_bitCount_95d88_24.2.2.2.2.2.2.2.2.2.2.1
theorem dJ13_bitCount_95d88_38 : decode cJ13_bitCount_95d88 38 = .ok (.lushr, 1) := wtJ13_bitCount_95d88_24.2.2.2.2.2.2.2.2.2.2.2.1
theorem dJ13_bitCount_95d88_39 : decode cJ13_bitCount_95d88 39 = .ok (.ladd, 1) := wtJ13_bitCount_95d88_24.2.2.2.2.2.2.2.2.2.2.2.2.1
theorem dJ13_bitCount_95d88_40 : decode cJ13_bitCount_95d88 40 = .ok (.lstore_n 0, 1) := wtJ13_bitCount_95d88_24.2.2.2.2.2.2.2.2.2.2.2.2.2.1
theorem dJ13_bitCount_95d88_41 : decode cJ13_bitCount_95d88 41 = .ok (.lload_n 0, 1) := wtJ13_bitCount_95d88_24.2.2.2.2.2.2.2.2.2.2.2.2.2.2.1
theorem dJ13_bitCount_95d88_42 : decode cJ13_bitCount_95d88 42 = .ok (.lload_n 0, 1) := wtJ13_bitCount_95d88_24.2.2.2.2.2.2.2.2.2.2.2.2.2.2.2.1
theorem dJ13_bitCount_95d88_43 : decode cJ13_bitCount_95d88 43 = .ok (.bipush 16, 2) := wtJ13_bitCount_95d88_24.2.2.2.2.2.2.2.2.2.2.2.2.2.2.2.2.1
theorem dJ13_bitCount_95d88_45 : decode cJ13_bitCount_95d88 45 = .ok (.lushr, 1) := wtJ13_bitCount_95d88_24.2.2.2.2.2.2.2.2.2.2.2.2.2.2.2.2.2.1
theorem dJ13_bitCount_95d88_46 : decode cJ13_bitCount_95d88 46 = .ok (.ladd, 1) := wtJ13_bitCount_95d88_24.2.2.2.2.2.2.2.2.2.2.2.2.2.2.2.2.2.2.1
theorem dJ13_bitCount_95d88_47 : decode cJ13_bitCount_95d88 47 = .ok (.lstore_n 0, 1) := wtJ13_bitCount_95d88_24.2.2.2.2.2.2.2.2.2.2.2.2.2.2.2.2.2.2.2.1
theorem wtJ13_bitCount_95d88_48 : dwcj cJ13_bitCount_95d88 48 [(0, .lload_n 0, 1), (1, .lload_n 0, 1), (2, .bipush 32, 2), (4, .lushr, 1), (5, .ladd, 1), (6, .lstore_n 0, 1), (7, .lload_n 0, 1), (8, .l2i, 1), (9, .bipush 127, 2), (11, .iand, 1), (12, .ireturn, 1)] := dw_all (l := [30, 30, 16, 32, 125, 97, 63, 30, 136, 16, 127, 126, 172]) (by decide +kernel)
theorem dJ13_bitCount_95d88_48 : decode cJ13_bitCount_95d88 48 = .ok (.lload_n 0, 1) := wtJ13_bitCount_95d88_48.1
theorem dJ13_bitCount_95d88_49 : decode cJ13_bitCount_95d88 49 = .ok (.lload_n 0, 1) := wtJ13_bitCount_95d88_48.2.1
theorem dJ13_bitCount_95d88_50 : decode cJ13_bitCount_95d88 50 = .ok (.bipush 32, 2) := wtJ13_bitCount_95d88_48.2.2.1
theorem dJ13_bitCount_95d88_52 : decode cJ13_bitCount_95d88 52 = .ok (.lushr, 1) := wtJ13_bitCount_95d88_48.2.2.2.1
theorem dJ13_bitCount_95d88_53 : decode cJ13_bitCount_95d88 53 = .ok (.ladd, 1) := wtJ13_bitCount_95d88_48.2.2.2.2.1
theorem dJ13_bitCount_95d88_54 : decode cJ13_bitCount_95d88 54 = .ok (.lstore_n 0, 1) := wtJ13_bitCount_95d88_48.2.2.2.2.2.1
theorem dJ13_bitCount_95d88_55 : decode cJ13_bitCount_95d88 55 = .ok (.lload_n 0, 1) := wtJ13_bitCount_95d88_48.2.2.2.2.2.2.1
theorem dJ13_bitCount_95d88_56 : decode cJ13_bitCount_95d88 56 = .ok (.l2i, 1) := wtJ13_bitCount_95d88_48.2.2.2.2.2.2.2.1
theorem dJ13_bitCount_95d88_57 : decode cJ13_bitCount_95d88 57 = .ok (.bipush 127, 2) := wtJ13_bitCount_95d88_48.2.2.2.2.2.2.2.2.1
theorem dJ13_bitCount_95d88_59 : decode cJ13_bitCount_95d88 59 = .ok (.iand, 1) := wtJ13_bitCount_95d88_48.2.2.2.2.2.2.2.2.2.1
theorem dJ13_bitCount_95d88_60 : decode cJ13_bitCount_95d88 60 = .ok (.ireturn, 1) := wtJ13_bitCount_95d88_48.2.2.2.2.2.2.2.2.2.2.1
theorem wtJ9_max_f86c9_0 : dwcj cJ9_max_f86c9 0 [(0, .lload_n 0, 1), (1, .lload_n 2, 1), (2, .lcmp, 1), (3, .ifCond .lt 7, 3), (6, .lload_n 0, 1), (7, .goto 4, 3), (10, .lload_n 2, 1), (11, .lreturn, 1)] := dw_all (l := [30, 32, 148, 155, 0, 7, 30, 167, 0, 4, 32, 173]) (by decide +kernel)
theorem dJ9_max_f86c9_0 : decode cJ9_max_f86c9 0 = .ok (.lload_n 0, 1) := wtJ9_max_f86c9_0.1
theorem dJ9_max_f86c9_1 : decode cJ9_max_f86c9 1 = .ok (.lload_n 2, 1) := wtJ9_max_f86c9_0.2.1
theorem dJ9_max_f86c9_2 : decode cJ9_max_f86c9 2 = .ok (.lcmp, 1) := wtJ9_max_f86c9_0.2.2.1
theorem dJ9_max_f86c9_3 : decode cJ9_max_f86c9 3 = .ok (.ifCond .lt 7, 3) := wtJ9_max_f86c9_0.2.2.2.1
theorem dJ9_max_f86c9_6 : decode cJ9_max_f86c9 6 = .ok (.lload_n 0, 1) := wtJ9_max_f86c9_0.2.2.2.2.1
theorem dJ9_max_f86c9_7 : decode cJ9_max_f86c9 7 = .ok (.goto 4, 3) := wtJ9_max_f86c9_0.2.2.2.2.2.1
theorem dJ9_max_f86c9_10 : decode cJ9_max_f86c9 10 = .ok (.lload_n 2, 1) := wtJ9_max_f86c9_0.2.2.2.2.2.2.1
theorem dJ9_max_f86c9_11 : decode cJ9_max_f86c9 11 = .ok (.lreturn, 1) := wtJ9_max_f86c9_0.2.2.2.2.2.2.2.1
theorem wtJ9_min_f86c9_0 : dwcj cJ9_min_f86c9 0 [(0, .lload_n 0, 1), (1, .lload_n 2, 1), (2, .lcmp, 1), (3, .ifCond .gt 7, 3), (6, .lload_n 0, 1), (7, .goto 4, 3), (10, .lload_n 2, 1), (11, .lreturn, 1)] := dw_all (l := [30, 32, 148, 157, 0, 7, 30, 167, 0, 4, 32, 173]) (by decide +kernel)
theorem dJ9_min_f86c9_0 : decode cJ9_min_f86c9 0 = .ok (.lload_n 0, 1) := wtJ9_min_f86c9_0.1
theorem dJ9_min_f86c9_1 : decode cJ9_min_f86c9 1 = .ok (.lload_n 2, 1) := wtJ9_min_f86c9_0.2.1
theorem dJ9_min_f86c9_2 : decode cJ9_min_f86c9 2 = .ok (.lcmp, 1) := wtJ9_min_f86c9_0.2.2.1
theorem dJ9_min_f86c9_3 : decode cJ9_min_f86c9 3 = .ok (.ifCond .gt 7, 3) := wtJ9_min_f86c9_0.2.2.2.1
theorem dJ9_min_f86c9_6 : decode cJ9_min_f86c9 6 = .ok (.lload_n 0, 1) := wtJ9_min_f86c9_0.2.2.2.2.1
theorem dJ9_min_f86c9_7 : decode cJ9_min_f86c9 7 = .ok (.goto 4, 3) := wtJ9_min_f86c9_0.2.2.2.2.2.1
theorem dJ9_min_f86c9_10 : decode cJ9_min_f86c9 10 = .ok (.lload_n 2, 1) := wtJ9_min_f86c9_0.2.2.2.2.2.2.1
theorem dJ9_min_f86c9_11 : decode cJ9_min_f86c9 11 = .ok (.lreturn, 1) := wtJ9_min_f86c9_0.2.2.2.2.2.2.2.1
theorem wtJ0_init_81219_0 : dwcj cJ0_init_81219 0 [(0, .aload_n 0, 1), (1, .aload_n 1, 1), (2, .aconst_null, 1), (3, .invokespecial 489, 3), (6, .return_, 1)] := dw_all (l := [42, 43, 1, 183, 1, 233, 177]) (by decide +kernel)
theorem dJ0_init_81219_0 : decode cJ0_init_81219 0 = .ok (.aload_n 0, 1) := wtJ0_init_81219_0.1
theorem dJ0_init_81219_1 : decode cJ0_init_81219 1 = .ok (.aload_n 1, 1) := wtJ0_init_81219_0.2.1
theorem dJ0_init_81219_2 : decode cJ0_init_81219 2 = .ok (.aconst_null, 1) := wtJ0_init_81219_0.2.2.1
theorem dJ0_init_81219_3 : decode cJ0_init_81219 3 = .ok (.invokespecial 489, 3) := wtJ0_init_81219_0.2.2.2.1
theorem dJ0_init_81219_6 : decode cJ0_init_81219 6 = .ok (.return_, 1) := wtJ0_init_81219_0.2.2.2.2.1
theorem wtJ0_length_8abf5_0 : dwcj cJ0_length_8abf5 0 [(0, .aload_n 0, 1), (1, .getfield 9, 3), (4, .arraylength, 1), (5, .aload_n 0, 1), (6, .invokevirtual 335, 3), (9, .ishr, 1), (10, .ireturn, 1)] := dw_all (l := [42, 180, 0, 9, 190, 42, 182, 1, 79, 122, 172]) (by decide +kernel)
theorem dJ0_length_8abf5_0 : decode cJ0_length_8abf5 0 = .ok (.aload_n 0, 1) := wtJ0_length_8abf5_0.1
theorem dJ0_length_8abf5_1 : decode cJ0_length_8abf5 1 = .ok (.getfield 9, 3) := wtJ0_length_8abf5_0.2.1
theorem dJ0_length_8abf5_4 : decode cJ0_length_8abf5 4 = .ok (.arraylength, 1) := wtJ0_length_8abf5_0.2.2.1
theorem dJ0_length_8abf5_5 : decode cJ0_length_8abf5 5 = .ok (.aload_n 0, 1) := wtJ0_length_8abf5_0.2.2.2.1
theorem dJ0_length_8abf5_6 : decode cJ0_length_8abf5 6 = .ok (.invokevirtual 335, 3) := wtJ0_length_8abf5_0.2.2.2.2.1
theorem dJ0_length_8abf5_9 : decode cJ0_length_8abf5 9 = .ok (.ishr, 1) := wtJ0_length_8abf5_0.2.2.2.2.2.1
theorem dJ0_length_8abf5_10 : decode cJ0_length_8abf5 10 = .ok (.ireturn, 1) := wtJ0_length_8abf5_0.2.2.2.2.2.2.1
theorem wtJ0_charAt_5068e_0 : dwcj cJ0_charAt_5068e 0 [(0, .aload_n 0, 1), (1, .invokevirtual 492, 3), (4, .ifCond .eq 12, 3), (7, .aload_n 0, 1), (8, .getfield 9, 3), (11, .iload_n 1, 1), (12, .invokestatic 495, 3), (15, .ireturn, 1), (16, .aload_n 0, 1), (17, .getfield 9, 3), (20, .iload_n 1, 1), (21, .invokestatic 498, 3)] := dw_all (l := [42, 182, 1, 236, 153, 0, 12, 42, 180, 0, 9, 27, 184, 1, 239, 172, 42, 180, 0, 9, 27, 184, 1, 242]) (by decide +kernel)
theorem dJ0_charAt_5068e_0 : decode cJ0_charAt_5068e 0 = .ok (.aload_n 0, 1) := wtJ0_charAt_5068e_0.1
theorem dJ0_charAt_5068e_1 : decode cJ0_charAt_5068e 1 = .ok (.invokevirtual 492, 3) := wtJ0_charAt_5068e_0.2.1
theorem dJ0_charAt_5068e_4 : decode cJ0_charAt_5068e 4 = .ok (.ifCond .eq 12, 3) := wtJ0_charAt_5068e_0.2.2.1
theorem dJ0_charAt_5068e_7 : decode cJ0_charAt_5068e 7 = .ok (.aload_n 0, 1) := wtJ0_charAt_5068e_0.2.2.2.1
theorem dJ0_charAt_5068e_8 : decode cJ0_charAt_5068e 8 = .ok (.getfield 9, 3) := wtJ0_charAt_5068e_0.2.2.2.2.1
theorem dJ0_charAt_5068e_11 : decode cJ0_charAt_5068e 11 = .ok (.iload_n 1, 1) := wtJ0_charAt_5068e_0.2.2.2.2.2.1
theorem dJ0_charAt_5068e_12 : decode cJ0_charAt_5068e 12 = .ok (.invokestatic 495, 3) := wtJ0_charAt_5068e_0.2.2.2.2.2.2.1
theorem dJ0_charAt_5068e_15 : decode cJ0_charAt_5068e 15 = .ok (.ireturn, 1) := wtJ0_charAt_5068e_0.2.2.2.2.2.2.2.1
theorem dJ0_charAt_5068e_16 : decode cJ0_charAt_5068e 16 = .ok (.aload_n 0, 1) := wtJ0_charAt_5068e_0.2.2.2.2.2.2.2.2.1
theorem dJ0_charAt_5068e_17 : decode cJ0_charAt_5068e 17 = .ok (.getfield 9, 3) := wtJ0_charAt_5068e_0.2.2.2.2.2.2.2.2.2.1
theorem dJ0_charAt_5068e_20 : decode cJ0_charAt_5068e 20 = .ok (.iload_n 1, 1) := wtJ0_charAt_5068e_0.2.2.2.2.2.2.2.2.2.2.1
theorem dJ0_charAt_5068e_21 : decode cJ0_charAt_5068e 21 = .ok (.invokestatic 498, 3) := wtJ0_charAt_5068e_0.2.2.2.2.2.2.2.2.2.2.2.1
theorem wtJ0_charAt_5068e_24 : dwcj cJ0_charAt_5068e 24 [(0, .ireturn, 1)] := dw_all (l := [172]) (by decide +kernel)
theorem dJ0_charAt_5068e_24 : decode cJ0_charAt_5068e 24 = .ok (.ireturn, 1) := wtJ0_charAt_5068e_24.1
theorem wtJ0_getBytes_840e7_0 : dwcj cJ0_getBytes_840e7 0 [(0, .aload_n 0, 1), (1, .invokevirtual 335, 3), (4, .iload_n 3, 1), (5, .if_icmp .ne 23, 3), (8, .aload_n 0, 1), (9, .getfield 9, 3), (12, .iconst 0, 1), (13, .aload_n 1, 1), (14, .iload_n 2, 1), (15, .iload_n 3, 1), (16, .ishl, 1), (17, .aload_n 0, 1), (18, .getfield 9, 3), (21, .arraylength, 1), (22, .invokestatic 212, 3)] := dw_all (l := [42, 182, 1, 79, 29, 160, 0, 23, 42, 180, 0, 9, 3, 43, 28, 29, 120, 42, 180, 0, 9, 190, 184, 0, 212]) (by decide +kernel)
theorem dJ0_getBytes_840e7_0 : decode cJ0_getBytes_840e7 0 = .ok (.aload_n 0, 1) := wtJ0_getBytes_840e7_0.1
theorem dJ0_getBytes_840e7_1 : decode cJ0_getBytes_840e7 1 = .ok (.invokevirtual 335, 3) := wtJ0_getBytes_840e7_0.2.1
theorem dJ0_getBytes_840e7_4 : decode cJ0_getBytes_840e7 4 = .ok (.iload_n 3, 1) := wtJ0_getBytes_840e7_0.2.2.1
theorem dJ0_getBytes_840e7_5 : decode cJ0_getBytes_840e7 5 = .ok (.if_icmp .ne 23, 3) := wtJ0_getBytes_840e7_0.2.2.2.1
theorem dJ0_getBytes_840e7_8 : decode cJ0_getBytes_840e7 8 = .ok (.aload_n 0, 1) := wtJ0_getBytes_840e7_0.2.2.2.2.1
theorem dJ0_getBytes_840e7_9 : decode cJ0_getBytes_840e7 9 = .ok (.getfield 9, 3) := wtJ0_getBytes_840e7_0.2.2.2.2.2.1
theorem dJ0_getBytes_840e7_12 : decode cJ0_getBytes_840e7 12 = .ok (.iconst 0, 1) := wtJ0_getBytes_840e7_0.2.2.2.2.2.2.1
theorem dJ0_getBytes_840e7_13 : decode cJ0_getBytes_840e7 13 = .ok (.aload_n 1, 1) := wtJ0_getBytes_840e7_0.2.2.2.2.2.2.2.1
theorem dJ0_getBytes_840e7_14 : decode cJ0_getBytes_840e7 14 = .ok (.iload_n 2, 1) := wtJ0_getBytes_840e7_0.2.2.2.2.2.2.2.2.1
theorem dJ0_getBytes_840e7_15 : decode cJ0_getBytes_840e7 15 = .ok (.iload_n 3, 1) := wtJ0_getBytes_840e7_0.2.2.2.2.2.2.2.2.2.1
theorem dJ0_getBytes_840e7_16 : decode cJ0_getBytes_840e7 16 = .ok (.ishl, 1) := wtJ0_getBytes_840e7_0.2.2.2.2.2.2.2.2.2.2.1
theorem dJ0_getBytes_840e7_17 : decode cJ0_getBytes_840e7 17 = .ok (.aload_n 0, 1) := wtJ0_getBytes_840e7_0.2.2.2.2.2.2.2.2.2.2.2.1
theorem dJ0_getBytes_840e7_18 : decode cJ0_getBytes_840e7 18 = .ok (.getfield 9, 3) := wtJ0_getBytes_840e7_0.2.2.2.2.2.2.2.2.2.2.2.2.1
theorem dJ0_getBytes_840e7_21 : decode cJ0_getBytes_840e7 21 = .ok (.arraylength, 1) := wtJ0_getBytes_840e7_0.2.2.2.2.2.2.2.2.2.2.2.2.2.1
theorem dJ0_getBytes_840e7_22 : decode cJ0_getBytes_840e7 22 = .ok (.invokestatic 212, 3) := wtJ0_getBytes_840e7_0.2.2.2.2.2.2.2.2.2.2.2.2.2.2.1
theorem wtJ0_getBytes_840e7_25 : dwcj cJ0_getBytes_840e7 25 [(0, .goto 18, 3), (3, .aload_n 0, 1), (4, .getfield 9, 3), (7, .iconst 0, 1), (8, .aload_n 1, 1), (9, .iload_n 2, 1), (10, .aload_n 0, 1), (11, .getfield 9, 3), (14, .arraylength, 1), (15, .invokestatic 106, 3), (18, .return_, 1)] := dw_all (l := [167, 0, 18, 42, 180, 0, 9, 3, 43, 28, 42, 180, 0, 9, 190, 184, 0, 106, 177]) (by decide +kernel)
theorem dJ0_getBytes_840e7_25 : decode cJ0_getBytes_840e7 25 = .ok (.goto 18, 3) := wtJ0_getBytes_840e7_25.1
theorem dJ0_getBytes_840e7_28 : decode cJ0_getBytes_840e7 28 = .ok (.aload_n 0, 1) := wtJ0_getBytes_840e7_25.2.1
theorem dJ0_getBytes_840e7_29 : decode cJ0_getBytes_840e7 29 = .ok (.getfield 9, 3) := wtJ0_getBytes_840e7_25.2.2.1
theorem dJ0_getBytes_840e7_32 : decode cJ0_getBytes_840e7 32 = .ok (.iconst 0, 1) := wtJ0_getBytes_840e7_25.2.2.2.1
theorem dJ0_getBytes_840e7_33 : decode cJ0_getBytes_840e7 33 = .ok (.aload_n 1, 1) := wtJ0_getBytes_840e7_25.2.2.2.2.1
theorem dJ0_getBytes_840e7_34 : decode cJ0_getBytes_840e7 34 = .ok (.iload_n 2, 1) := wtJ0_getBytes_840e7_25.2.2.2.2.2.1
theorem dJ0_getBytes_840e7_35 : decode cJ0_getBytes_840e7 35 = .ok (.aload_n 0, 1) := wtJ0_getBytes_840e7_25.2.2.2.2.2.2.1
theorem dJ0_getBytes_840e7_36 : decode cJ0_getBytes_840e7 36 = .ok (.getfield 9, 3) := wtJ0_getBytes_840e7_25.2.2.2.2.2.2.2.1
theorem dJ0_getBytes_840e7_39 : decode cJ0_getBytes_840e7 39 = .ok (.arraylength, 1) := wtJ0_getBytes_840e7_25.2.2.2.2.2.2.2.2.1
theorem dJ0_getBytes_840e7_40 : decode cJ0_getBytes_840e7 40 = .ok (.invokestatic 106, 3) := wtJ0_getBytes_840e7_25.2.2.2.2.2.2.2.2.2.1
theorem dJ0_getBytes_840e7_43 : decode cJ0_getBytes_840e7 43 = .ok (.return_, 1) := wtJ0_getBytes_840e7_25.2.2.2.2.2.2.2.2.2.2.1
theorem wtJ0_init_db425_0 : dwcj cJ0_init_db425 0 [(0, .aload_n 0, 1), (1, .invokespecial 1, 3), (4, .aload_n 1, 1), (5, .invokevirtual 552, 3), (8, .astore_n 3, 1), (9, .aload_n 1, 1), (10, .invokevirtual 549, 3), (13, .istore 4, 2), (15, .aload_n 1, 1), (16, .invokevirtual 1047, 3), (19, .ifCond .eq 22, 3), (22, .aload_n 0, 1), (23, .iconst 0, 1)] := dw_all (l := [42, 183, 0, 1, 43, 182, 2, 40, 78, 43, 182, 2, 37, 54, 4, 43, 182, 4, 23, 153, 0, 22, 42, 3]) (by decide +kernel)
theorem dJ0_init_db425_0 : decode cJ0_init_db425 0 = .ok (.aload_n 0, 1) := wtJ0_init_db425_0.1
theorem dJ0_init_db425_1 : decode cJ0_init_db425 1 = .ok (.invokespecial 1, 3) := wtJ0_init_db425_0.2.1
theorem dJ0_init_db425_4 : decode cJ0_init_db425 4 = .ok (.aload_n 1, 1) := wtJ0_init_db425_0.2.2.1
theorem dJ0_init_db425_5 : decode cJ0_init_db425 5 = .ok (.invokevirtual 552, 3) := wtJ0_init_db425_0.2.2.2.1
theorem dJ0_init_db425_8 : decode cJ0_init_db425 8 = .ok (.astore_n 3, 1) := wtJ0_init_db425_0.2.2.2.2.1
theorem dJ0_init_db425_9 : decode cJ0_init_db425 9 = .ok (.aload_n 1, 1) := wtJ0_init_db425_0.2.2.2.2.2.1
theorem dJ0_init_db425_10 : decode cJ0_init_db425 10 = .ok (.invokevirtual 549, 3) := wtJ0_init_db425_0.2.2.2.2.2.2.1
theorem dJ0_init_db425_13 : decode cJ0_init_db425 13 = .ok (.istore 4, 2) := wtJ0_init_db425_0.2.2.2.2.2.2.2.1
theorem dJ0_init_db425_15 : decode cJ0_init_db425 15 = .ok (.aload_n 1, 1) := wtJ0_init_db425_0.2.2.2.2.2.2.2.2.1
theorem dJ0_init_db425_16 : decode cJ0_init_db425 16 = .ok (.invokevirtual 1047, 3) := wtJ0_init_db425_0.2.2.2.2.2.2.2.2.2.1
theorem dJ0_init_db425_19 : decode cJ0_init_db425 19 = .ok (.ifCond .eq 22, 3) := wtJ0_init_db425_0.2.2.2.2.2.2.2.2.2.2.1
theorem dJ0_init_db425_22 : decode cJ0_init_db425 22 = .ok (.aload_n 0, 1) := wtJ0_init_db425_0.2.2.2.2.2.2.2.2.2.2.2.1
theorem dJ0_init_db425_23 : decode cJ0_init_db425 23 = .ok (.iconst 0, 1) := wtJ0_init_db425_0.2.2.2.2.2.2.2.2.2.2.2.2.1
theorem wtJ0_init_db425_24 : dwcj cJ0_init_db425 24 [(0, .putfield 15, 3), (3, .aload_n 0, 1), (4, .aload_n 3, 1), (5, .iconst 0, 1), (6, .iload 4, 2), (8, .invokestatic 54, 3), (11, .putfield 9, 3), (14, .goto 59, 3), (17, .getstatic 38, 3), (20, .ifCond .eq 35, 3), (23, .aload_n 1, 1)] := dw_all (l := [181, 0, 15, 42, 45, 3, 21, 4, 184, 0, 54, 181, 0, 9, 167, 0, 59, 178, 0, 38, 153, 0, 35, 43]) (by decide +kernel)
theorem dJ0_init_db425_24 : decode cJ0_init_db425 24 = .ok (.putfield 15, 3) := wtJ0_init_db425_24.1
theorem dJ0_init_db425_27 : decode cJ0_init_db425 27 = .ok (.aload_n 0, 1) := wtJ0_init_db425_24.2.1
theorem dJ0_init_db425_28 : decode cJ0_init_db425 28 = .ok (.aload_n 3, 1) := wtJ0_init_db425_24.2.2.1
theorem dJ0_init_db425_29 : decode cJ0_init_db425 29 = .ok (.iconst 0, 1) := wtJ0_init_db425_24.2.2.2.1
theorem dJ0_init_db425_30 : decode cJ0_init_db425 30 = .ok (.iload 4, 2) := wtJ0_init_db425_24.2.2.2.2.1
theorem dJ0_init_db425_32 : decode cJ0_init_db425 32 = .ok (.invokestatic 54, 3) := wtJ0_init_db425_24.2.2.2.2.2.1
theorem dJ0_init_db425_35 : decode cJ0_init_db425 35 = .ok (.putfield 9, 3) := wtJ0_init_db425_24.2.2.2.2.2.2.1
theorem dJ0_init_db425_38 : decode cJ0_init_db425 38 = .ok (.goto 59, 3) := wtJ0_init_db425_24.2.2.2.2.2.2.2.1
theorem dJ0_init_db425_41 : decode cJ0_init_db425 41 = .ok (.getstatic 38, 3) := wtJ0_init_db425_24.2.2.2.2.2.2.2.2.1
theorem dJ0_init_db425_44 : decode cJ0_init_db425 44 = .ok (.ifCond .eq 35, 3) := wtJ0_init_db425_24.2.2.2.2.2.2.2.2.2.1
theorem dJ0_init_db425_47 : decode cJ0_init_db425 47 = .ok (.aload_n 1, 1) := wtJ0_init_db425_24.2.2.2.2.2.2.2.2.2.2.1
theorem wtJ0_init_db425_48 : dwcj cJ0_init_db425 48 [(0, .getfield 1048, 3), (3, .ifCond .eq 28, 3), (6, .aload_n 0, 1), (7, .aload_n 3, 1), (8, .iconst 0, 1), (9, .iload 4, 2), (11, .invokestatic 1051, 3), (14, .putfield 9, 3), (17, .aload_n 0, 1), (18, .aload_n 0, 1), (19, .getfield 9, 3), (22, .iload 4, 2)] := dw_all (l := [180, 4, 24, 153, 0, 28, 42, 45, 3, 21, 4, 184, 4, 27, 181, 0, 9, 42, 42, 180, 0, 9, 21, 4]) (by decide +kernel)
theorem dJ0_init_db425_48 : decode cJ0_init_db425 48 = .ok (.getfield 1048, 3) := wtJ0_init_db425_48.1
theorem dJ0_init_db425_51 : decode cJ0_init_db425 51 = .ok (.ifCond .eq 28, 3) := wtJ0_init_db425_48.2.1
theorem dJ0_init_db425_54 : decode cJ0_init_db425 54 = .ok (.aload_n 0, 1) := wtJ0_init_db425_48.2.2.1
theorem dJ0_init_db425_55 : decode cJ0_init_db425 55 = .ok (.aload_n 3, 1) := wtJ0_init_db425_48.2.2.2.1
theorem dJ0_init_db425_56 : decode cJ0_init_db425 56 = .ok (.iconst 0, 1) := wtJ0_init_db425_48.2.2.2.2.1
theorem dJ0_init_db425_57 : decode cJ0_init_db425 57 = .ok (.iload 4, 2) := wtJ0_init_db425_48.2.2.2.2.2.1
theorem dJ0_init_db425_59 : decode cJ0_init_db425 59 = .ok (.invokestatic 1051, 3) := wtJ0_init_db425_48.2.2.2.2.2.2.1
theorem dJ0_init_db425_62 : decode cJ0_init_db425 62 = .ok (.putfield 9, 3) := wtJ0_init_db425_48.2.2.2.2.2.2.2.1
theorem dJ0_init_db425_65 : decode cJ0_init_db425 65 = .ok (.aload_n 0, 1) := wtJ0_init_db425_48.2.2.2.2.2.2.2.2.1
theorem dJ0_init_db425_66 : decode cJ0_init_db425 66 = .ok (.aload_n 0, 1) := wtJ0_init_db425_48.2.2.2.2.2.2.2.2.2.1
theorem dJ0_init_db425_67 : decode cJ0_init_db425 67 = .ok (.getfield 9, 3) := wtJ0_init_db425_48.2.2.2.2.2.2.2.2.2.2.1
theorem dJ0_init_db425_70 : decode cJ0_init_db425 70 = .ok (.iload 4, 2) := wtJ0_init_db425_48.2.2.2.2.2.2.2.2.2.2.2.1
theorem wtJ0_init_db425_72 : dwcj cJ0_init_db425 72 [(0, .invokestatic 47, 3), (3, .putfield 15, 3), (6, .return_, 1), (7, .aload_n 0, 1), (8, .iconst 1, 1), (9, .putfield 15, 3), (12, .aload_n 0, 1), (13, .aload_n 3, 1), (14, .iconst 0, 1), (15, .iload 4, 2), (17, .iconst 1, 1), (18, .ishl, 1), (19, .invokestatic 54, 3), (22, .putfield 9, 3)] := dw_all (l := [184, 0, 47, 181, 0, 15, 177, 42, 4, 181, 0, 15, 42, 45, 3, 21, 4, 4, 120, 184, 0, 54, 181, 0, 9]) (by decide +kernel)
theorem dJ0_init_db425_72 : decode cJ0_init_db425 72 = .ok (.invokestatic 47, 3) := wtJ0_init_db425_72.1
theorem dJ0_init_db425_75 : decode cJ0_init_db425 75 = .ok (.putfield 15, 3) := wtJ0_init_db425_72.2.1
theorem dJ0_init_db425_78 : decode cJ0_init_db425 78 = .ok (.return_, 1) := wtJ0_init_db425_72.2.2.1
theorem dJ0_init_db425_79 : decode cJ0_init_db425 79 = .ok (.aload_n 0, 1) := wtJ0_init_db425_72.2.2.2.1
theorem dJ0_init_db425_80 : decode cJ0_init_db425 80 = .ok (.iconst 1, 1) := wtJ0_init_db425_72.2.2.2.2.1
theorem dJ0_init_db425_81 : decode cJ0_init_db425 81 = .ok (.putfield 15, 3) := wtJ0_init_db425_72.2.2.2.2.2.1
theorem dJ0_init_db425_84 : decode cJ0_init_db425 84 = .ok (.aload_n 0, 1) := wtJ0_init_db425_72.2.2.2.2.2.2.1
theorem dJ0_init_db425_85 : decode cJ0_init_db425 85 = .ok (.aload_n 3, 1) := wtJ0_init_db425_72.2.2.2.2.2.2.2.1
theorem dJ0_init_db425_86 : decode cJ0_init_db425 86 = .ok (.iconst 0, 1) := wtJ0_init_db425_72.2.2.2.2.2.2.2.2.1
theorem dJ0_init_db425_87 : decode cJ0_init_db425 87 = .ok (.iload 4, 2) := wtJ0_init_db425_72.2.2.2.2.2.2.2.2.2.1
theorem dJ0_init_db425_89 : decode cJ0_init_db425 89 = .ok (.iconst 1, 1) := wtJ0_init_db425_72.2.2.2.2.2.2.2.2.2.2.1
theorem dJ0_init_db425_90 : decode cJ0_init_db425 90 = .ok (.ishl, 1) := wtJ0_init_db425_72.2.2.2.2.2.2.2.2.2.2.2.1
theorem dJ0_init_db425_91 : decode cJ0_init_db425 91 = .ok (.invokestatic 54, 3) := wtJ0_init_db425_72.2.2.2.2.2.2.2.2.2.2.2.2.1
theorem dJ0_init_db425_94 : decode cJ0_init_db425 94 = .ok (.putfield 9, 3) := wtJ0_init_db425_72.2.2.2.2.2.2.2.2.2.2.2.2.2.1
theorem wtJ0_init_db425_97 : dwcj cJ0_init_db425 97 [(0, .return_, 1)] := dw_all (l := [177]) (by decide +kernel)
theorem dJ0_init_db425_97 : decode cJ0_init_db425 97 = .ok (.return_, 1) := wtJ0_init_db425_97.1
theorem wtJ0_coder_7d493_0 : dwcj cJ0_coder_7d493 0 [(0, .getstatic 38, 3), (3, .ifCond .eq 10, 3), (6, .aload_n 0, 1), (7, .getfield 15, 3), (10, .goto 4, 3), (13, .iconst 1, 1), (14, .ireturn, 1)] := dw_all (l := [178, 0, 38, 153, 0, 10, 42, 180, 0, 15, 167, 0, 4, 4, 172]) (by decide +kernel)
theorem dJ0_coder_7d493_0 : decode cJ0_coder_7d493 0 = .ok (.getstatic 38, 3) := wtJ0_coder_7d493_0.1
theorem dJ0_coder_7d493_3 : decode cJ0_coder_7d493 3 = .ok (.ifCond .eq 10, 3) := wtJ0_coder_7d493_0.2.1
theorem dJ0_coder_7d493_6 : decode cJ0_coder_7d493 6 = .ok (.aload_n 0, 1) := wtJ0_coder_7d493_0.2.2.1
theorem dJ0_coder_7d493_7 : decode cJ0_coder_7d493 7 = .ok (.getfield 15, 3) := wtJ0_coder_7d493_0.2.2.2.1
theorem dJ0_coder_7d493_10 : decode cJ0_coder_7d493 10 = .ok (.goto 4, 3) := wtJ0_coder_7d493_0.2.2.2.2.1
theorem dJ0_coder_7d493_13 : decode cJ0_coder_7d493 13 = .ok (.iconst 1, 1) := wtJ0_coder_7d493_0.2.2.2.2.2.1
theorem dJ0_coder_7d493_14 : decode cJ0_coder_7d493 14 = .ok (.ireturn, 1) := wtJ0_coder_7d493_0.2.2.2.2.2.2.1
theorem wtJ0_isLatin1_aae02_0 : dwcj cJ0_isLatin1_aae02 0 [(0, .getstatic 38, 3), (3, .ifCond .eq 14, 3), (6, .aload_n 0, 1), (7, .getfield 15, 3), (10, .ifCond .ne 7, 3), (13, .iconst 1, 1), (14, .goto 4, 3), (17, .iconst 0, 1), (18, .ireturn, 1)] := dw_all (l := [178, 0, 38, 153, 0, 14, 42, 180, 0, 15, 154, 0, 7, 4, 167, 0, 4, 3, 172]) (by decide +kernel)
theorem dJ0_isLatin1_aae02_0 : decode cJ0_isLatin1_aae02 0 = .ok (.getstatic 38, 3) := wtJ0_isLatin1_aae02_0.1
theorem dJ0_isLatin1_aae02_3 : decode cJ0_isLatin1_aae02 3 = .ok (.ifCond .eq 14, 3) := wtJ0_isLatin1_aae02_0.2.1
theorem dJ0_isLatin1_aae02_6 : decode cJ0_isLatin1_aae02 6 = .ok (.aload_n 0, 1) := wtJ0_isLatin1_aae02_0.2.2.1
theorem dJ0_isLatin1_aae02_7 : decode cJ0_isLatin1_aae02 7 = .ok (.getfield 15, 3) := wtJ0_isLatin1_aae02_0.2.2.2.1
theorem dJ0_isLatin1_aae02_10 : decode cJ0_isLatin1_aae02 10 = .ok (.ifCond .ne 7, 3) := wtJ0_isLatin1_aae02_0.2.2.2.2.1
theorem dJ0_isLatin1_aae02_13 : decode cJ0_isLatin1_aae02 13 = .ok (.iconst 1, 1) := wtJ0_isLatin1_aae02_0.2.2.2.2.2.1
theorem dJ0_isLatin1_aae02_14 : decode cJ0_isLatin1_aae02 14 = .ok (.goto 4, 3) := wtJ0_isLatin1_aae02_0.2.2.2.2.2.2.1
theorem dJ0_isLatin1_aae02_17 : decode cJ0_isLatin1_aae02 17 = .ok (.iconst 0, 1) := wtJ0_isLatin1_aae02_0.2.2.2.2.2.2.2.1
theorem dJ0_isLatin1_aae02_18 : decode cJ0_isLatin1_aae02 18 = .ok (.ireturn, 1) := wtJ0_isLatin1_aae02_0.2.2.2.2.2.2.2.2.1
theorem wtJ0_checkIndex_df160_0 : dwcj cJ0_checkIndex_df160 0 [(0, .iload_n 0, 1), (1, .iload_n 1, 1), (2, .getstatic 1053, 3), (5, .invokestatic 1059, 3), (8, .pop, 1), (9, .return_, 1)] := dw_all (l := [26, 27, 178, 4, 29, 184, 4, 35, 87, 177]) (by decide +kernel)
theorem dJ0_checkIndex_df160_0 : decode cJ0_checkIndex_df160 0 = .ok (.iload_n 0, 1) := wtJ0_checkIndex_df160_0.1
theorem dJ0_checkIndex_df160_1 : decode cJ0_checkIndex_df160 1 = .ok (.iload_n 1, 1) := wtJ0_checkIndex_df160_0.2.1
theorem dJ0_checkIndex_df160_2 : decode cJ0_checkIndex_df160 2 = .ok (.getstatic 1053, 3) := wtJ0_checkIndex_df160_0.2.2.1
theorem dJ0_checkIndex_df160_5 : decode cJ0_checkIndex_df160 5 = .ok (.invokestatic 1059, 3) := wtJ0_checkIndex_df160_0.2.2.2.1
theorem dJ0_checkIndex_df160_8 : decode cJ0_checkIndex_df160 8 = .ok (.pop, 1) := wtJ0_checkIndex_df160_0.2.2.2.2.1
theorem dJ0_checkIndex_df160_9 : decode cJ0_checkIndex_df160 9 = .ok (.return_, 1) := wtJ0_checkIndex_df160_0.2.2.2.2.2.1
theorem wtJ0_checkOffset_df160_0 : dwcj cJ0_checkOffset_df160 0 [(0, .iload_n 0, 1), (1, .iload_n 1, 1), (2, .iload_n 1, 1), (3, .getstatic 1053, 3), (6, .invokestatic 1062, 3), (9, .pop, 1), (10, .return_, 1)] := dw_all (l := [26, 27, 27, 178, 4, 29, 184, 4, 38, 87, 177]) (by decide +kernel)
theorem dJ0_checkOffset_df160_0 : decode cJ0_checkOffset_df160 0 = .ok (.iload_n 0, 1) := wtJ0_checkOffset_df160_0.1
theorem dJ0_checkOffset_df160_1 : decode cJ0_checkOffset_df160 1 = .ok (.iload_n 1, 1) := wtJ0_checkOffset_df160_0.2.1
theorem dJ0_checkOffset_df160_2 : decode cJ0_checkOffset_df160 2 = .ok (.iload_n 1, 1) := wtJ0_checkOffset_df160_0.2.2.1
theorem dJ0_checkOffset_df160_3 : decode cJ0_checkOffset_df160 3 = .ok (.getstatic 1053, 3) := wtJ0_checkOffset_df160_0.2.2.2.1
theorem dJ0_checkOffset_df160_6 : decode cJ0_checkOffset_df160 6 = .ok (.invokestatic 1062, 3) := wtJ0_checkOffset_df160_0.2.2.2.2.1
theorem dJ0_checkOffset_df160_9 : decode cJ0_checkOffset_df160 9 = .ok (.pop, 1) := wtJ0_checkOffset_df160_0.2.2.2.2.2.1
theorem dJ0_checkOffset_df160_10 : decode cJ0_checkOffset_df160 10 = .ok (.return_, 1) := wtJ0_checkOffset_df160_0.2.2.2.2.2.2.1
theorem wtJ0_checkBoundsOffCount_cabcc_0 : dwcj cJ0_checkBoundsOffCount_cabcc 0 [(0, .iload_n 0, 1), (1, .iload_n 1, 1), (2, .iload_n 2, 1), (3, .getstatic 1053, 3), (6, .invokestatic 1065, 3), (9, .ireturn, 1)] := dw_all (l := [26, 27, 28, 178, 4, 29, 184, 4, 41, 172]) (by decide +kernel)
theorem dJ0_checkBoundsOffCount_cabcc_0 : decode cJ0_checkBoundsOffCount_cabcc 0 = .ok (.iload_n 0, 1) := wtJ0_checkBoundsOffCount_cabcc_0.1
theorem dJ0_checkBoundsOffCount_cabcc_1 : decode cJ0_checkBoundsOffCount_cabcc 1 = .ok (.iload_n 1, 1) := wtJ0_checkBoundsOffCount_cabcc_0.2.1
theorem dJ0_checkBoundsOffCount_cabcc_2 : decode cJ0_checkBoundsOffCount_cabcc 2 = .ok (.iload_n 2, 1) := wtJ0_checkBoundsOffCount_cabcc_0.2.2.1
theorem dJ0_checkBoundsOffCount_cabcc_3 : decode cJ0_checkBoundsOffCount_cabcc 3 = .ok (.getstatic 1053, 3) := wtJ0_checkBoundsOffCount_cabcc_0.2.2.2.1
theorem dJ0_checkBoundsOffCount_cabcc_6 : decode cJ0_checkBoundsOffCount_cabcc 6 = .ok (.invokestatic 1065, 3) := wtJ0_checkBoundsOffCount_cabcc_0.2.2.2.2.1
theorem dJ0_checkBoundsOffCount_cabcc_9 : decode cJ0_checkBoundsOffCount_cabcc 9 = .ok (.ireturn, 1) := wtJ0_checkBoundsOffCount_cabcc_0.2.2.2.2.2.1
theorem wtJ0_checkBoundsBeginEnd_23922_0 : dwcj cJ0_checkBoundsBeginEnd_23922 0 [(0, .iload_n 0, 1), (1, .iload_n 1, 1), (2, .iload_n 2, 1), (3, .getstatic 1053, 3), (6, .invokestatic 1062, 3), (9, .pop, 1), (10, .return_, 1)] := dw_all (l := [26, 27, 28, 178, 4, 29, 184, 4, 38, 87, 177]) (by decide +kernel)
theorem dJ0_checkBoundsBeginEnd_23922_0 : decode cJ0_checkBoundsBeginEnd_23922 0 = .ok (.iload_n 0, 1) := wtJ0_checkBoundsBeginEnd_23922_0.1
theorem dJ0_checkBoundsBeginEnd_23922_1 : decode cJ0_checkBoundsBeginEnd_23922 1 = .ok (.iload_n 1, 1) := wtJ0_checkBoundsBeginEnd_23922_0.2.1
theorem dJ0_checkBoundsBeginEnd_23922_2 : decode cJ0_checkBoundsBeginEnd_23922 2 = .ok (.iload_n 2, 1) := wtJ0_checkBoundsBeginEnd_23922_0.2.2.1
theorem dJ0_checkBoundsBeginEnd_23922_3 : decode cJ0_checkBoundsBeginEnd_23922 3 = .ok (.getstatic 1053, 3) := wtJ0_checkBoundsBeginEnd_23922_0.2.2.2.1
theorem dJ0_checkBoundsBeginEnd_23922_6 : decode cJ0_checkBoundsBeginEnd_23922 6 = .ok (.invokestatic 1062, 3) := wtJ0_checkBoundsBeginEnd_23922_0.2.2.2.2.1
theorem dJ0_checkBoundsBeginEnd_23922_9 : decode cJ0_checkBoundsBeginEnd_23922 9 = .ok (.pop, 1) := wtJ0_checkBoundsBeginEnd_23922_0.2.2.2.2.2.1
theorem dJ0_checkBoundsBeginEnd_23922_10 : decode cJ0_checkBoundsBeginEnd_23922 10 = .ok (.return_, 1) := wtJ0_checkBoundsBeginEnd_23922_0.2.2.2.2.2.2.1
theorem wtJ4_init_da8c8_0 : dwcj cJ4_init_da8c8 0 [(0, .aload_n 0, 1), (1, .bipush 16, 2), (3, .invokespecial 1, 3), (6, .return_, 1)] := dw_all (l := [42, 16, 16, 183, 0, 1, 177]) (by decide +kernel)
theorem dJ4_init_da8c8_0 : decode cJ4_init_da8c8 0 = .ok (.aload_n 0, 1) := wtJ4_init_da8c8_0.1
theorem dJ4_init_da8c8_1 : decode cJ4_init_da8c8 1 = .ok (.bipush 16, 2) := wtJ4_init_da8c8_0.2.1
theorem dJ4_init_da8c8_3 : decode cJ4_init_da8c8 3 = .ok (.invokespecial 1, 3) := wtJ4_init_da8c8_0.2.2.1
theorem dJ4_init_da8c8_6 : decode cJ4_init_da8c8 6 = .ok (.return_, 1) := wtJ4_init_da8c8_0.2.2.2.1
theorem wtJ4_append_15ec4_0 : dwcj cJ4_append_15ec4 0 [(0, .aload_n 0, 1), (1, .aload_n 1, 1), (2, .invokespecial 29, 3), (5, .pop, 1), (6, .aload_n 0, 1), (7, .areturn, 1)] := dw_all (l := [42, 43, 183, 0, 29, 87, 42, 176]) (by decide +kernel)
theorem dJ4_append_15ec4_0 : decode cJ4_append_15ec4 0 = .ok (.aload_n 0, 1) := wtJ4_append_15ec4_0.1
theorem dJ4_append_15ec4_1 : decode cJ4_append_15ec4 1 = .ok (.aload_n 1, 1) := wtJ4_append_15ec4_0.2.1
theorem dJ4_append_15ec4_2 : decode cJ4_append_15ec4 2 = .ok (.invokespecial 29, 3) := wtJ4_append_15ec4_0.2.2.1
theorem dJ4_append_15ec4_5 : decode cJ4_append_15ec4 5 = .ok (.pop, 1) := wtJ4_append_15ec4_0.2.2.2.1
theorem dJ4_append_15ec4_6 : decode cJ4_append_15ec4 6 = .ok (.aload_n 0, 1) := wtJ4_append_15ec4_0.2.2.2.2.1
theorem dJ4_append_15ec4_7 : decode cJ4_append_15ec4 7 = .ok (.areturn, 1) := wtJ4_append_15ec4_0.2.2.2.2.2.1
theorem wtJ4_append_cf468_0 : dwcj cJ4_append_cf468 0 [(0, .aload_n 0, 1), (1, .iload_n 1, 1), (2, .invokespecial 50, 3), (5, .pop, 1), (6, .aload_n 0, 1), (7, .areturn, 1)] := dw_all (l := [42, 27, 183, 0, 50, 87, 42, 176]) (by decide +kernel)
theorem dJ4_append_cf468_0 : decode cJ4_append_cf468 0 = .ok (.aload_n 0, 1) := wtJ4_append_cf468_0.1
theorem dJ4_append_cf468_1 : decode cJ4_append_cf468 1 = .ok (.iload_n 1, 1) := wtJ4_append_cf468_0.2.1
theorem dJ4_append_cf468_2 : decode cJ4_append_cf468 2 = .ok (.invokespecial 50, 3) := wtJ4_append_cf468_0.2.2.1
theorem dJ4_append_cf468_5 : decode cJ4_append_cf468 5 = .ok (.pop, 1) := wtJ4_append_cf468_0.2.2.2.1
theorem dJ4_append_cf468_6 : decode cJ4_append_cf468 6 = .ok (.aload_n 0, 1) := wtJ4_append_cf468_0.2.2.2.2.1
theorem dJ4_append_cf468_7 : decode cJ4_append_cf468 7 = .ok (.areturn, 1) := wtJ4_append_cf468_0.2.2.2.2.2.1
theorem wtJ4_append_bf812_0 : dwcj cJ4_append_bf812 0 [(0, .aload_n 0, 1), (1, .iload_n 1, 1), (2, .invokespecial 53, 3), (5, .pop, 1), (6, .aload_n 0, 1), (7, .areturn, 1)] := dw_all (l := [42, 27, 183, 0, 53, 87, 42, 176]) (by decide +kernel)
theorem dJ4_append_bf812_0 : decode cJ4_append_bf812 0 = .ok (.aload_n 0, 1) := wtJ4_append_bf812_0.1
theorem dJ4_append_bf812_1 : decode cJ4_append_bf812 1 = .ok (.iload_n 1, 1) := wtJ4_append_bf812_0.2.1
theorem dJ4_append_bf812_2 : decode cJ4_append_bf812 2 = .ok (.invokespecial 53, 3) := wtJ4_append_bf812_0.2.2.1
theorem dJ4_append_bf812_5 : decode cJ4_append_bf812 5 = .ok (.pop, 1) := wtJ4_append_bf812_0.2.2.2.1
theorem dJ4_append_bf812_6 : decode cJ4_append_bf812 6 = .ok (.aload_n 0, 1) := wtJ4_append_bf812_0.2.2.2.2.1
theorem dJ4_append_bf812_7 : decode cJ4_append_bf812 7 = .ok (.areturn, 1) := wtJ4_append_bf812_0.2.2.2.2.2.1
theorem wtJ4_reverse_43fcb_0 : dwcj cJ4_reverse_43fcb 0 [(0, .aload_n 0, 1), (1, .invokespecial 127, 3), (4, .pop, 1), (5, .aload_n 0, 1), (6, .areturn, 1)] := dw_all (l := [42, 183, 0, 127, 87, 42, 176]) (by decide +kernel)
theorem dJ4_reverse_43fcb_0 : decode cJ4_reverse_43fcb 0 = .ok (.aload_n 0, 1) := wtJ4_reverse_43fcb_0.1
theorem dJ4_reverse_43fcb_1 : decode cJ4_reverse_43fcb 1 = .ok (.invokespecial 127, 3) := wtJ4_reverse_43fcb_0.2.1
theorem dJ4_reverse_43fcb_4 : decode cJ4_reverse_43fcb 4 = .ok (.pop, 1) := wtJ4_reverse_43fcb_0.2.2.1
theorem dJ4_reverse_43fcb_5 : decode cJ4_reverse_43fcb 5 = .ok (.aload_n 0, 1) := wtJ4_reverse_43fcb_0.2.2.2.1
theorem dJ4_reverse_43fcb_6 : decode cJ4_reverse_43fcb 6 = .ok (.areturn, 1) := wtJ4_reverse_43fcb_0.2.2.2.2.1
theorem wtJ4_toString_0e30d_0 : dwcj cJ4_toString_0e30d 0 [(0, .new 18, 3), (3, .dup, 1), (4, .aload_n 0, 1), (5, .invokespecial 137, 3), (8, .areturn, 1)] := dw_all (l := [187, 0, 18, 89, 42, 183, 0, 137, 176]) (by decide +kernel)
theorem dJ4_toString_0e30d_0 : decode cJ4_toString_0e30d 0 = .ok (.new 18, 3) := wtJ4_toString_0e30d_0.1
theorem dJ4_toString_0e30d_3 : decode cJ4_toString_0e30d 3 = .ok (.dup, 1) := wtJ4_toString_0e30d_0.2.1
theorem dJ4_toString_0e30d_4 : decode cJ4_toString_0e30d 4 = .ok (.aload_n 0, 1) := wtJ4_toString_0e30d_0.2.2.1
theorem dJ4_toString_0e30d_5 : decode cJ4_toString_0e30d 5 = .ok (.invokespecial 137, 3) := wtJ4_toString_0e30d_0.2.2.2.1
theorem dJ4_toString_0e30d_8 : decode cJ4_toString_0e30d 8 = .ok (.areturn, 1) := wtJ4_toString_0e30d_0.2.2.2.2.1
theorem wtJ4_length_8abf5_0 : dwcj cJ4_length_8abf5 0 [(0, .aload_n 0, 1), (1, .invokespecial 343, 3), (4, .ireturn, 1)] := dw_all (l := [42, 183, 1, 87, 172]) (by decide +kernel)
theorem dJ4_length_8abf5_0 : decode cJ4_length_8abf5 0 = .ok (.aload_n 0, 1) := wtJ4_length_8abf5_0.1
theorem dJ4_length_8abf5_1 : decode cJ4_length_8abf5 1 = .ok (.invokespecial 343, 3) := wtJ4_length_8abf5_0.2.1
theorem dJ4_length_8abf5_4 : decode cJ4_length_8abf5 4 = .ok (.ireturn, 1) := wtJ4_length_8abf5_0.2.2.1
theorem wtJ1_charAt_3b067_0 : dwcj cJ1_charAt_3b067 0 [(0, .iload_n 1, 1), (1, .aload_n 0, 1), (2, .arraylength, 1), (3, .invokestatic 9, 3), (6, .aload_n 0, 1), (7, .iload_n 1, 1), (8, .baload, 1), (9, .sipush 255, 3), (12, .iand, 1), (13, .i2c, 1), (14, .ireturn, 1)] := dw_all (l := [27, 42, 190, 184, 0, 9, 42, 27, 51, 17, 0, 255, 126, 146, 172]) (by decide +kernel)
theorem dJ1_charAt_3b067_0 : decode cJ1_charAt_3b067 0 = .ok (.iload_n 1, 1) := wtJ1_charAt_3b067_0.1
theorem dJ1_charAt_3b067_1 : decode cJ1_charAt_3b067 1 = .ok (.aload_n 0, 1) := wtJ1_charAt_3b067_0.2.1
theorem dJ1_charAt_3b067_2 : decode cJ1_charAt_3b067 2 = .ok (.arraylength, 1) := wtJ1_charAt_3b067_0.2.2.1
theorem dJ1_charAt_3b067_3 : decode cJ1_charAt_3b067 3 = .ok (.invokestatic 9, 3) := wtJ1_charAt_3b067_0.2.2.2.1
theorem dJ1_charAt_3b067_6 : decode cJ1_charAt_3b067 6 = .ok (.aload_n 0, 1) := wtJ1_charAt_3b067_0.2.2.2.2.1
theorem dJ1_charAt_3b067_7 : decode cJ1_charAt_3b067 7 = .ok (.iload_n 1, 1) := wtJ1_charAt_3b067_0.2.2.2.2.2.1
theorem dJ1_charAt_3b067_8 : decode cJ1_charAt_3b067 8 = .ok (.baload, 1) := wtJ1_charAt_3b067_0.2.2.2.2.2.2.1
theorem dJ1_charAt_3b067_9 : decode cJ1_charAt_3b067 9 = .ok (.sipush 255, 3) := wtJ1_charAt_3b067_0.2.2.2.2.2.2.2.1
theorem dJ1_charAt_3b067_12 : decode cJ1_charAt_3b067 12 = .ok (.iand, 1) := wtJ1_charAt_3b067_0.2.2.2.2.2.2.2.2.1
theorem dJ1_charAt_3b067_13 : decode cJ1_charAt_3b067 13 = .ok (.i2c, 1) := wtJ1_charAt_3b067_0.2.2.2.2.2.2.2.2.2.1
theorem dJ1_charAt_3b067_14 : decode cJ1_charAt_3b067 14 = .ok (.ireturn, 1) := wtJ1_charAt_3b067_0.2.2.2.2.2.2.2.2.2.2.1
theorem wtJ1_canEncode_fc78d_0 : dwcj cJ1_canEncode_fc78d 0 [(0, .iload_n 0, 1), (1, .sipush 255, 3), (4, .if_icmp .gt 7, 3), (7, .iconst 1, 1), (8, .goto 4, 3), (11, .iconst 0, 1), (12, .ireturn, 1)] := dw_all (l := [26, 17, 0, 255, 163, 0, 7, 4, 167, 0, 4, 3, 172]) (by decide +kernel)
theorem dJ1_canEncode_fc78d_0 : decode cJ1_canEncode_fc78d 0 = .ok (.iload_n 0, 1) := wtJ1_canEncode_fc78d_0.1
theorem dJ1_canEncode_fc78d_1 : decode cJ1_canEncode_fc78d 1 = .ok (.sipush 255, 3) := wtJ1_canEncode_fc78d_0.2.1
theorem dJ1_canEncode_fc78d_4 : decode cJ1_canEncode_fc78d 4 = .ok (.if_icmp .gt 7, 3) := wtJ1_canEncode_fc78d_0.2.2.1
theorem dJ1_canEncode_fc78d_7 : decode cJ1_canEncode_fc78d 7 = .ok (.iconst 1, 1) := wtJ1_canEncode_fc78d_0.2.2.2.1
theorem dJ1_canEncode_fc78d_8 : decode cJ1_canEncode_fc78d 8 = .ok (.goto 4, 3) := wtJ1_canEncode_fc78d_0.2.2.2.2.1
theorem dJ1_canEncode_fc78d_11 : decode cJ1_canEncode_fc78d 11 = .ok (.iconst 0, 1) := wtJ1_canEncode_fc78d_0.2.2.2.2.2.1
theorem dJ1_canEncode_fc78d_12 : decode cJ1_canEncode_fc78d 12 = .ok (.ireturn, 1) := wtJ1_canEncode_fc78d_0.2.2.2.2.2.2.1
theorem wtJ1_inflate_0e8fd_0 : dwcj cJ1_inflate_0e8fd 0 [(0, .aload_n 0, 1), (1, .iload_n 1, 1), (2, .aload_n 2, 1), (3, .iload_n 3, 1), (4, .iload 4, 2), (6, .invokestatic 240, 3), (9, .return_, 1)] := dw_all (l := [42, 27, 44, 29, 21, 4, 184, 0, 240, 177]) (by decide +kernel)
theorem dJ1_inflate_0e8fd_0 : decode cJ1_inflate_0e8fd 0 = .ok (.aload_n 0, 1) := wtJ1_inflate_0e8fd_0.1
theorem dJ1_inflate_0e8fd_1 : decode cJ1_inflate_0e8fd 1 = .ok (.iload_n 1, 1) := wtJ1_inflate_0e8fd_0.2.1
theorem dJ1_inflate_0e8fd_2 : decode cJ1_inflate_0e8fd 2 = .ok (.aload_n 2, 1) := wtJ1_inflate_0e8fd_0.2.2.1
theorem dJ1_inflate_0e8fd_3 : decode cJ1_inflate_0e8fd 3 = .ok (.iload_n 3, 1) := wtJ1_inflate_0e8fd_0.2.2.2.1
theorem dJ1_inflate_0e8fd_4 : decode cJ1_inflate_0e8fd 4 = .ok (.iload 4, 2) := wtJ1_inflate_0e8fd_0.2.2.2.2.1
theorem dJ1_inflate_0e8fd_6 : decode cJ1_inflate_0e8fd 6 = .ok (.invokestatic 240, 3) := wtJ1_inflate_0e8fd_0.2.2.2.2.2.1
theorem dJ1_inflate_0e8fd_9 : decode cJ1_inflate_0e8fd 9 = .ok (.return_, 1) := wtJ1_inflate_0e8fd_0.2.2.2.2.2.2.1
theorem wtJ7_copyOf_9075b_0 : dwcj cJ7_copyOf_9075b 0 [(0, .iload_n 1, 1), (1, .aload_n 0, 1), (2, .arraylength, 1), (3, .if_icmp .ne 11, 3), (6, .aload_n 0, 1), (7, .invokevirtual 310, 3), (10, .checkcast 311, 3), (13, .areturn, 1), (14, .iload_n 1, 1)] := dw_all (l := [27, 42, 190, 160, 0, 11, 42, 182, 1, 54, 192, 1, 55, 176, 27]) (by decide +kernel)
theorem dJ7_copyOf_9075b_0 : decode cJ7_copyOf_9075b 0 = .ok (.iload_n 1, 1) := wtJ7_copyOf_9075b_0.1
theorem dJ7_copyOf_9075b_1 : decode cJ7_copyOf_9075b 1 = .ok (.aload_n 0, 1) := wtJ7_copyOf_9075b_0.2.1
theorem dJ7_copyOf_9075b_2 : decode cJ7_copyOf_9075b 2 = .ok (.arraylength, 1) := wtJ7_copyOf_9075b_0.2.2.1
theorem dJ7_copyOf_9075b_3 : decode cJ7_copyOf_9075b 3 = .ok (.if_icmp .ne 11, 3) := wtJ7_copyOf_9075b_0.2.2.2.1
theorem dJ7_copyOf_9075b_6 : decode cJ7_copyOf_9075b 6 = .ok (.aload_n 0, 1) := wtJ7_copyOf_9075b_0.2.2.2.2.1
theorem dJ7_copyOf_9075b_7 : decode cJ7_copyOf_9075b 7 = .ok (.invokevirtual 310, 3) := wtJ7_copyOf_9075b_0.2.2.2.2.2.1
theorem dJ7_copyOf_9075b_10 : decode cJ7_copyOf_9075b 10 = .ok (.checkcast 311, 3) := wtJ7_copyOf_9075b_0.2.2.2.2.2.2.1
theorem dJ7_copyOf_9075b_13 : decode cJ7_copyOf_9075b 13 = .ok (.areturn, 1) := wtJ7_copyOf_9075b_0.2.2.2.2.2.2.2.1
theorem dJ7_copyOf_9075b_14 : decode cJ7_copyOf_9075b 14 = .ok (.iload_n 1, 1) := wtJ7_copyOf_9075b_0.2.2.2.2.2.2.2.2.1
theorem dJ7_copyOf_9075b_15 : decode cJ7_copyOf_9075b 15 = .ok (.newarray .byte, 2) := by decide +kernel
theorem wtJ7_copyOf_9075b_17 : dwcj cJ7_copyOf_9075b 17 [(0, .astore_n 2, 1), (1, .aload_n 0, 1), (2, .iconst 0, 1), (3, .aload_n 2, 1), (4, .iconst 0, 1), (5, .aload_n 0, 1), (6, .arraylength, 1), (7, .iload_n 1, 1), (8, .invokestatic 304, 3), (11, .invokestatic 150, 3), (14, .aload_n 2, 1), (15, .areturn, 1)] := dw_all (l := [77, 42, 3, 44, 3, 42, 190, 27, 184, 1, 48, 184, 0, 150, 44, 176]) (by decide +kernel)
theorem dJ7_copyOf_9075b_17 : decode cJ7_copyOf_9075b 17 = .ok (.astore_n 2, 1) := wtJ7_copyOf_9075b_17.1
theorem dJ7_copyOf_9075b_18 : decode cJ7_copyOf_9075b 18 = .ok (.aload_n 0, 1) := wtJ7_copyOf_9075b_17.2.1
theorem dJ7_copyOf_9075b_19 : decode cJ7_copyOf_9075b 19 = .ok (.iconst 0, 1) := wtJ7_copyOf_9075b_17.2.2.1
theorem dJ7_copyOf_9075b_20 : decode cJ7_copyOf_9075b 20 = .ok (.aload_n 2, 1) := wtJ7_copyOf_9075b_17.2.2.2.1
theorem dJ7_copyOf_9075b_21 : decode cJ7_copyOf_9075b 21 = .ok (.iconst 0, 1) := wtJ7_copyOf_9075b_17.2.2.2.2.1
theorem dJ7_copyOf_9075b_22 : decode cJ7_copyOf_9075b 22 = .ok (.aload_n 0, 1) := wtJ7_copyOf_9075b_17.2.2.2.2.2.1
theorem dJ7_copyOf_9075b_23 : decode cJ7_copyOf_9075b 23 = .ok (.arraylength, 1) := wtJ7_copyOf_9075b_17.2.2.2.2.2.2.1
theorem dJ7_copyOf_9075b_24 : decode cJ7_copyOf_9075b 24 = .ok (.iload_n 1, 1) := wtJ7_copyOf_9075b_17.2.2.2.2.2.2.2.1
theorem dJ7_copyOf_9075b_25 : decode cJ7_copyOf_9075b 25 = .ok (.invokestatic 304, 3) := wtJ7_copyOf_9075b_17.2.2.2.2.2.2.2.2.1
theorem dJ7_copyOf_9075b_28 : decode cJ7_copyOf_9075b 28 = .ok (.invokestatic 150, 3) := wtJ7_copyOf_9075b_17.2.2.2.2.2.2.2.2.2.1
theorem dJ7_copyOf_9075b_31 : decode cJ7_copyOf_9075b 31 = .ok (.aload_n 2, 1) := wtJ7_copyOf_9075b_17.2.2.2.2.2.2.2.2.2.2.1
theorem dJ7_copyOf_9075b_32 : decode cJ7_copyOf_9075b 32 = .ok (.areturn, 1) := wtJ7_copyOf_9075b_17.2.2.2.2.2.2.2.2.2.2.2.1
theorem wtJ7_checkLength_df160_0 : dwcj cJ7_checkLength_df160 0 [(0, .iload_n 1, 1), (1, .iload_n 0, 1), (2, .if_icmp .ge 35, 3), (5, .new 43, 3), (8, .dup, 1), (9, .new 45, 3), (12, .dup, 1), (13, .invokespecial 47, 3), (16, .iload_n 0, 1), (17, .invokevirtual 54, 3), (20, .ldc_w 337, 3), (23, .invokevirtual 50, 3)] := dw_all (l := [27, 26, 162, 0, 35, 187, 0, 43, 89, 187, 0, 45, 89, 183, 0, 47, 26, 182, 0, 54, 19, 1, 81, 182, 0, 50]) (by decide +kernel)
theorem dJ7_checkLength_df160_0 : decode cJ7_checkLength_df160 0 = .ok (.iload_n 1, 1) := wtJ7_checkLength_df160_0.1
theorem dJ7_checkLength_df160_1 : decode cJ7_checkLength_df160 1 = .ok (.iload_n 0, 1) := wtJ7_checkLength_df160_0.2.1
theorem dJ7_checkLength_df160_2 : decode cJ7_checkLength_df160 2 = .ok (.if_icmp .ge 35, 3) := wtJ7_checkLength_df160_0.2.2.1
theorem dJ7_checkLength_df160_5 : decode cJ7_checkLength_df160 5 = .ok (.new 43, 3) := wtJ7_checkLength_df160_0.2.2.2.1
theorem dJ7_checkLength_df160_8 : decode cJ7_checkLength_df160 8 = .ok (.dup, 1) := wtJ7_checkLength_df160_0.2.2.2.2.1
theorem dJ7_checkLength_df160_9 : decode cJ7_checkLength_df160 9 = .ok (.new 45, 3) := wtJ7_checkLength_df160_0.2.2.2.2.2.1
theorem dJ7_checkLength_df160_12 : decode cJ7_checkLength_df160 12 = .ok (.dup, 1) := wtJ7_checkLength_df160_0.2.2.2.2.2.2.1
theorem dJ7_checkLength_df160_13 : decode cJ7_checkLength_df160 13 = .ok (.invokespecial 47, 3) := wtJ7_checkLength_df160_0.2.2.2.2.2.2.2.1
theorem dJ7_checkLength_df160_16 : decode cJ7_checkLength_df160 16 = .ok (.iload_n 0, 1) := wtJ7_checkLength_df160_0.2.2.2.2.2.2.2.2.1
theorem dJ7_checkLength_df160_17 : decode cJ7_checkLength_df160 17 = .ok (.invokevirtual 54, 3) := wtJ7_checkLength_df160_0.2.2.2.2.2.2.2.2.2.1
theorem dJ7_checkLength_df160_20 : decode cJ7_checkLength_df160 20 = .ok (.ldc_w 337, 3) := wtJ7_checkLength_df160_0.2.2.2.2.2.2.2.2.2.2.1
theorem dJ7_checkLength_df160_23 : decode cJ7_checkLength_df160 23 = .ok (.invokevirtual 50, 3) := wtJ7_checkLength_df160_0.2.2.2.2.2.2.2.2.2.2.2.1
theorem wtJ7_checkLength_df160_26 : dwcj cJ7_checkLength_df160 26 [(0, .iload_n 1, 1), (1, .invokevirtual 54, 3), (4, .invokevirtual 61, 3), (7, .invokespecial 65, 3), (10, .athrow, 1), (11, .return_, 1)] := dw_all (l := [27, 182, 0, 54, 182, 0, 61, 183, 0, 65, 191, 177]) (by decide +kernel)
theorem dJ7_checkLength_df160_26 : decode cJ7_checkLength_df160 26 = .ok (.iload_n 1, 1) := wtJ7_checkLength_df160_26.1
theorem dJ7_checkLength_df160_27 : decode cJ7_checkLength_df160 27 = .ok (.invokevirtual 54, 3) := wtJ7_checkLength_df160_26.2.1
theorem dJ7_checkLength_df160_30 : decode cJ7_checkLength_df160 30 = .ok (.invokevirtual 61, 3) := wtJ7_checkLength_df160_26.2.2.1
theorem dJ7_checkLength_df160_33 : decode cJ7_checkLength_df160 33 = .ok (.invokespecial 65, 3) := wtJ7_checkLength_df160_26.2.2.2.1
theorem dJ7_checkLength_df160_36 : decode cJ7_checkLength_df160 36 = .ok (.athrow, 1) := wtJ7_checkLength_df160_26.2.2.2.2.1
theorem dJ7_checkLength_df160_37 : decode cJ7_checkLength_df160 37 = .ok (.return_, 1) := wtJ7_checkLength_df160_26.2.2.2.2.2.1
theorem wtJ7_copyOfRange_39247_0 : dwcj cJ7_copyOfRange_39247 0 [(0, .iload_n 1, 1), (1, .ifCond .ne 9, 3), (4, .iload_n 2, 1), (5, .aload_n 0, 1), (6, .arraylength, 1), (7, .if_icmp .eq 10, 3), (10, .aload_n 0, 1), (11, .iload_n 1, 1), (12, .iload_n 2, 1), (13, .invokestatic 339, 3), (16, .areturn, 1), (17, .aload_n 0, 1), (18, .invokevirtual 310, 3), (21, .checkcast 311, 3)] := dw_all (l := [27, 154, 0, 9, 28, 42, 190, 159, 0, 10, 42, 27, 28, 184, 1, 83, 176, 42, 182, 1, 54, 192, 1, 55]) (by decide +kernel)
theorem dJ7_copyOfRange_39247_0 : decode cJ7_copyOfRange_39247 0 = .ok (.iload_n 1, 1) := wtJ7_copyOfRange_39247_0.1
theorem dJ7_copyOfRange_39247_1 : decode cJ7_copyOfRange_39247 1 = .ok (.ifCond .ne 9, 3) := wtJ7_copyOfRange_39247_0.2.1
theorem dJ7_copyOfRange_39247_4 : decode cJ7_copyOfRange_39247 4 = .ok (.iload_n 2, 1) := wtJ7_copyOfRange_39247_0.2.2.1
theorem dJ7_copyOfRange_39247_5 : decode cJ7_copyOfRange_39247 5 = .ok (.aload_n 0, 1) := wtJ7_copyOfRange_39247_0.2.2.2.1
theorem dJ7_copyOfRange_39247_6 : decode cJ7_copyOfRange_39247 6 = .ok (.arraylength, 1) := wtJ7_copyOfRange_39247_0.2.2.2.2.1
theorem dJ7_copyOfRange_39247_7 : decode cJ7_copyOfRange_39247 7 = .ok (.if_icmp .eq 10, 3) := wtJ7_copyOfRange_39247_0.2.2.2.2.2.1
theorem dJ7_copyOfRange_39247_10 : decode cJ7_copyOfRange_39247 10 = .ok (.aload_n 0, 1) := wtJ7_copyOfRange_39247_0.2.2.2.2.2.2.1
theorem dJ7_copyOfRange_39247_11 : decode cJ7_copyOfRange_39247 11 = .ok (.iload_n 1, 1) := wtJ7_copyOfRange_39247_0.2.2.2.2.2.2.2.1
theorem dJ7_copyOfRange_39247_12 : decode cJ7_copyOfRange_39247 12 = .ok (.iload_n 2, 1) := wtJ7_copyOfRange_39247_0.2.2.2.2.2.2.2.2.1
theorem dJ7_copyOfRange_39247_13 : decode cJ7_copyOfRange_39247 13 = .ok (.invokestatic 339, 3) := wtJ7_copyOfRange_39247_0.2.2.2.2.2.2.2.2.2.1
theorem dJ7_copyOfRange_39247_16 : decode cJ7_copyOfRange_39247 16 = .ok (.areturn, 1) := wtJ7_copyOfRange_39247_0.2.2.2.2.2.2.2.2.2.2.1
theorem dJ7_copyOfRange_39247_17 : decode cJ7_copyOfRange_39247 17 = .ok (.aload_n 0, 1) := wtJ7_copyOfRange_39247_0.2.2.2.2.2.2.2.2.2.2.2.1
theorem dJ7_copyOfRange_39247_18 : decode cJ7_copyOfRange_39247 18 = .ok (.invokevirtual 310, 3) := wtJ7_copyOfRange_39247_0.2.2.2.2.2.2.2.2.2.2.2.2.1
theorem dJ7_copyOfRange_39247_21 : decode cJ7_copyOfRange_39247 21 = .ok (.checkcast 311, 3) := wtJ7_copyOfRange_39247_0.2.2.2.2.2.2.2.2.2.2.2.2.2.1
theorem wtJ7_copyOfRange_39247_24 : dwcj cJ7_copyOfRange_39247 24 [(0, .areturn, 1)] := dw_all (l := [176]) (by decide +kernel)
theorem dJ7_copyOfRange_39247_24 : decode cJ7_copyOfRange_39247 24 = .ok (.areturn, 1) := wtJ7_copyOfRange_39247_24.1
theorem wtJ7_copyOfRangeByte_39247_0 : dwcj cJ7_copyOfRangeByte_39247 0 [(0, .iload_n 1, 1), (1, .iload_n 2, 1), (2, .invokestatic 343, 3), (5, .iload_n 2, 1), (6, .iload_n 1, 1), (7, .isub, 1), (8, .istore_n 3, 1), (9, .iload_n 3, 1)] := dw_all (l := [27, 28, 184, 1, 87, 28, 27, 100, 62, 29]) (by decide +kernel)
theorem dJ7_copyOfRangeByte_39247_0 : decode cJ7_copyOfRangeByte_39247 0 = .ok (.iload_n 1, 1) := wtJ7_copyOfRangeByte_39247_0.1
theorem dJ7_copyOfRangeByte_39247_1 : decode cJ7_copyOfRangeByte_39247 1 = .ok (.iload_n 2, 1) := wtJ7_copyOfRangeByte_39247_0.2.1
theorem dJ7_copyOfRangeByte_39247_2 : decode cJ7_copyOfRangeByte_39247 2 = .ok (.invokestatic 343, 3) := wtJ7_copyOfRangeByte_39247_0.2.2.1
theorem dJ7_copyOfRangeByte_39247_5 : decode cJ7_copyOfRangeByte_39247 5 = .ok (.iload_n 2, 1) := wtJ7_copyOfRangeByte_39247_0.2.2.2.1
theorem dJ7_copyOfRangeByte_39247_6 : decode cJ7_copyOfRangeByte_39247 6 = .ok (.iload_n 1, 1) := wtJ7_copyOfRangeByte_39247_0.2.2.2.2.1
theorem dJ7_copyOfRangeByte_39247_7 : decode cJ7_copyOfRangeByte_39247 7 = .ok (.isub, 1) := wtJ7_copyOfRangeByte_39247_0.2.2.2.2.2.1
theorem dJ7_copyOfRangeByte_39247_8 : decode cJ7_copyOfRangeByte_39247 8 = .ok (.istore_n 3, 1) := wtJ7_copyOfRangeByte_39247_0.2.2.2.2.2.2.1
theorem dJ7_copyOfRangeByte_39247_9 : decode cJ7_copyOfRangeByte_39247 9 = .ok (.iload_n 3, 1) := wtJ7_copyOfRangeByte_39247_0.2.2.2.2.2.2.2.1
theorem dJ7_copyOfRangeByte_39247_10 : decode cJ7_copyOfRangeByte_39247 10 = .ok (.newarray .byte, 2) := by decide +kernel
theorem wtJ7_copyOfRangeByte_39247_12 : dwcj cJ7_copyOfRangeByte_39247 12 [(0, .astore 4, 2), (2, .aload_n 0, 1), (3, .iload_n 1, 1), (4, .aload 4, 2), (6, .iconst 0, 1), (7, .aload_n 0, 1), (8, .arraylength, 1), (9, .iload_n 1, 1), (10, .isub, 1), (11, .iload_n 3, 1), (12, .invokestatic 304, 3), (15, .invokestatic 150, 3), (18, .aload 4, 2), (20, .areturn, 1)] := dw_all (l := [58, 4, 42, 27, 25, 4, 3, 42, 190, 27, 100, 29, 184, 1, 48, 184, 0, 150, 25, 4, 176]) (by decide +kernel)
theorem dJ7_copyOfRangeByte_39247_12 : decode cJ7_copyOfRangeByte_39247 12 = .ok (.astore 4, 2) := wtJ7_copyOfRangeByte_39247_12.1
theorem dJ7_copyOfRangeByte_39247_14 : decode cJ7_copyOfRangeByte_39247 14 = .ok (.aload_n 0, 1) := wtJ7_copyOfRangeByte_39247_12.2.1
theorem dJ7_copyOfRangeByte_39247_15 : decode cJ7_copyOfRangeByte_39247 15 = .ok (.iload_n 1, 1) := wtJ7_copyOfRangeByte_39247_12.2.2.1
theorem dJ7_copyOfRangeByte_39247_16 : decode cJ7_copyOfRangeByte_39247 16 = .ok (.aload 4, 2) := wtJ7_copyOfRangeByte_39247_12.2.2.2.1
theorem dJ7_copyOfRangeByte_39247_18 : decode cJ7_copyOfRangeByte_39247 18 = .ok (.iconst 0, 1) := wtJ7_copyOfRangeByte_39247_12.2.2.2.2.1
theorem dJ7_copyOfRangeByte_39247_19 : decode cJ7_copyOfRangeByte_39247 19 = .ok (.aload_n 0, 1) := wtJ7_copyOfRangeByte_39247_12.2.2.2.2.2.1
theorem dJ7_copyOfRangeByte_39247_20 : decode cJ7_copyOfRangeByte_39247 20 = .ok (.arraylength, 1) := wtJ7_copyOfRangeByte_39247_12.2.2.2.2.2.2.1
theorem dJ7_copyOfRangeByte_39247_21 : decode cJ7_copyOfRangeByte_39247 21 = .ok (.iload_n 1, 1) := wtJ7_copyOfRangeByte_39247_12.2.2.2.2.2.2.2.1
theorem dJ7_copyOfRangeByte_39247_22 : decode cJ7_copyOfRangeByte_39247 22 = .ok (.isub, 1) := wtJ7_copyOfRangeByte_39247_12.2.2.2.2.2.2.2.2.1
theorem dJ7_copyOfRangeByte_39247_23 : decode cJ7_copyOfRangeByte_39247 23 = .ok (.iload_n 3, 1) := wtJ7_copyOfRangeByte_39247_12.2.2.2.2.2.2.2.2.2.1
theorem dJ7_copyOfRangeByte_39247_24 : decode cJ7_copyOfRangeByte_39247 24 = .ok (.invokestatic 304, 3) := wtJ7_copyOfRangeByte_39247_12.2.2.2.2.2.2.2.2.2.2.1
theorem dJ7_copyOfRangeByte_39247_27 : decode cJ7_copyOfRangeByte_39247 27 = .ok (.invokestatic 150, 3) := wtJ7_copyOfRangeByte_39247_12.2.2.2.2.2.2.2.2.2.2.2.1
theorem dJ7_copyOfRangeByte_39247_30 : decode cJ7_copyOfRangeByte_39247 30 = .ok (.aload 4, 2) := wtJ7_copyOfRangeByte_39247_12.2.2.2.2.2.2.2.2.2.2.2.2.1
theorem dJ7_copyOfRangeByte_39247_32 : decode cJ7_copyOfRangeByte_39247 32 = .ok (.areturn, 1) := wtJ7_copyOfRangeByte_39247_12.2.2.2.2.2.2.2.2.2.2.2.2.2.1
theorem wtJ8_newLength_cabcc_0 : dwcj cJ8_newLength_cabcc 0 [(0, .iload_n 0, 1), (1, .iload_n 1, 1), (2, .iload_n 2, 1), (3, .invokestatic 194, 3), (6, .iadd, 1), (7, .istore_n 3, 1), (8, .iconst 0, 1), (9, .iload_n 3, 1), (10, .if_icmp .ge 11, 3), (13, .iload_n 3, 1), (14, .ldc 200, 2), (16, .if_icmp .gt 5, 3), (19, .iload_n 3, 1), (20, .ireturn, 1), (21, .iload_n 0, 1), (22, .iload_n 1, 1), (23, .invokestatic 201, 3)] := dw_all (l := [26, 27, 28, 184, 0, 194, 96, 62, 3, 29, 162, 0, 11, 29, 18, 200, 163, 0, 5, 29, 172, 26, 27, 184, 0, 201]) (by decide +kernel)
theorem dJ8_newLength_cabcc_0 : decode cJ8_newLength_cabcc 0 = .ok (.iload_n 0, 1) := wtJ8_newLength_cabcc_0.1
theorem dJ8_newLength_cabcc_1 : decode cJ8_newLength_cabcc 1 = .ok (.iload_n 1, 1) := wtJ8_newLength_cabcc_0.2.1
theorem dJ8_newLength_cabcc_2 : decode cJ8_newLength_cabcc 2 = .ok (.iload_n 2, 1) := wtJ8_newLength_cabcc_0.2.2.1
theorem dJ8_newLength_cabcc_3 : decode cJ8_newLength_cabcc 3 = .ok (.invokestatic 194, 3) := wtJ8_newLength_cabcc_0.2.2.2.1
theorem dJ8_newLength_cabcc_6 : decode cJ8_newLength_cabcc 6 = .ok (.iadd, 1) := wtJ8_newLength_cabcc_0.2.2.2.2.1
theorem dJ8_newLength_cabcc_7 : decode cJ8_newLength_cabcc 7 = .ok (.istore_n 3, 1) := wtJ8_newLength_cabcc_0.2.2.2.2.2.1
theorem dJ8_newLength_cabcc_8 : decode cJ8_newLength_cabcc 8 = .ok (.iconst 0, 1) := wtJ8_newLength_cabcc_0.2.2.2.2.2.2.1
theorem dJ8_newLength_cabcc_9 : decode cJ8_newLength_cabcc 9 = .ok (.iload_n 3, 1) := wtJ8_newLength_cabcc_0.2.2.2.2.2.2.2.1
theorem dJ8_newLength_cabcc_10 : decode cJ8_newLength_cabcc 10 = .ok (.if_icmp .ge 11, 3) := wtJ8_newLength_cabcc_0.2.2.2.2.2.2.2.2.1
theorem dJ8_newLength_cabcc_13 : decode cJ8_newLength_cabcc 13 = .ok (.iload_n 3, 1) := wtJ8_newLength_cabcc_0.2.2.2.2.2.2.2.2.2.1
theorem dJ8_newLength_cabcc_14 : decode cJ8_newLength_cabcc 14 = .ok (.ldc 200, 2) := wtJ8_newLength_cabcc_0.2.2.2.2.2.2.2.2.2.2.1
theorem dJ8_newLength_cabcc_16 : decode cJ8_newLength_cabcc 16 = .ok (.if_icmp .gt 5, 3) := wtJ8_newLength_cabcc_0.2.2.2.2.2.2.2.2.2.2.2.1
theorem dJ8_newLength_cabcc_19 : decode cJ8_newLength_cabcc 19 = .ok (.iload_n 3, 1) := wtJ8_newLength_cabcc_0.2.2.2.2.2.2.2.2.2.2.2.2.1
theorem dJ8_newLength_cabcc_20 : decode cJ8_newLength_cabcc 20 = .ok (.ireturn, 1) := wtJ8_newLength_cabcc_0.2.2.2.2.2.2.2.2.2.2.2.2.2.1
theorem dJ8_newLength_cabcc_21 : decode cJ8_newLength_cabcc 21 = .ok (.iload_n 0, 1) := wtJ8_newLength_cabcc_0.2.2.2.2.2.2.2.2.2.2.2.2.2.2.1
theorem dJ8_newLength_cabcc_22 : decode cJ8_newLength_cabcc 22 = .ok (.iload_n 1, 1) := wtJ8_newLength_cabcc_0.2.2.2.2.2.2.2.2.2.2.2.2.2.2.2.1
theorem dJ8_newLength_cabcc_23 : decode cJ8_newLength_cabcc 23 = .ok (.invokestatic 201, 3) := wtJ8_newLength_cabcc_0.2.2.2.2.2.2.2.2.2.2.2.2.2.2.2.2.1
theorem wtJ8_newLength_cabcc_26 : dwcj cJ8_newLength_cabcc 26 [(0, .ireturn, 1)] := dw_all (l := [172]) (by decide +kernel)
theorem dJ8_newLength_cabcc_26 : decode cJ8_newLength_cabcc 26 = .ok (.ireturn, 1) := wtJ8_newLength_cabcc_26.1
theorem wtJ8_hugeLength_7cf53_0 : dwcj cJ8_hugeLength_7cf53 0 [(0, .iload_n 0, 1), (1, .iload_n 1, 1), (2, .iadd, 1), (3, .istore_n 2, 1), (4, .iload_n 2, 1), (5, .ifCond .ge 44, 3), (8, .new 204, 3), (11, .dup, 1), (12, .new 89, 3), (15, .dup, 1), (16, .invokespecial 91, 3), (19, .ldc 206, 2), (21, .invokevirtual 94, 3)] := dw_all (l := [26, 27, 96, 61, 28, 156, 0, 44, 187, 0, 204, 89, 187, 0, 89, 89, 183, 0, 91, 18, 206, 182, 0, 94]) (by decide +kernel)
theorem dJ8_hugeLength_7cf53_0 : decode cJ8_hugeLength_7cf53 0 = .ok (.iload_n 0, 1) := wtJ8_hugeLength_7cf53_0.1
theorem dJ8_hugeLength_7cf53_1 : decode cJ8_hugeLength_7cf53 1 = .ok (.iload_n 1, 1) := wtJ8_hugeLength_7cf53_0.2.1
theorem dJ8_hugeLength_7cf53_2 : decode cJ8_hugeLength_7cf53 2 = .ok (.iadd, 1) := wtJ8_hugeLength_7cf53_0.2.2.1
theorem dJ8_hugeLength_7cf53_3 : decode cJ8_hugeLength_7cf53 3 = .ok (.istore_n 2, 1) := wtJ8_hugeLength_7cf53_0.2.2.2.1
theorem dJ8_hugeLength_7cf53_4 : decode cJ8_hugeLength_7cf53 4 = .ok (.iload_n 2, 1) := wtJ8_hugeLength_7cf53_0.2.2.2.2.1
theorem dJ8_hugeLength_7cf53_5 : decode cJ8_hugeLength_7cf53 5 = .ok (.ifCond .ge 44, 3) := wtJ8_hugeLength_7cf53_0.2.2.2.2.2.1
theorem dJ8_hugeLength_7cf53_8 : decode cJ8_hugeLength_7cf53 8 = .ok (.new 204, 3) := wtJ8_hugeLength_7cf53_0.2.2.2.2.2.2.1
theorem dJ8_hugeLength_7cf53_11 : decode cJ8_hugeLength_7cf53 11 = .ok (.dup, 1) := wtJ8_hugeLength_7cf53_0.2.2.2.2.2.2.2.1
theorem dJ8_hugeLength_7cf53_12 : decode cJ8_hugeLength_7cf53 12 = .ok (.new 89, 3) := wtJ8_hugeLength_7cf53_0.2.2.2.2.2.2.2.2.1
theorem dJ8_hugeLength_7cf53_15 : decode cJ8_hugeLength_7cf53 15 = .ok (.dup, 1) := wtJ8_hugeLength_7cf53_0.2.2.2.2.2.2.2.2.2.1
theorem dJ8_hugeLength_7cf53_16 : decode cJ8_hugeLength_7cf53 16 = .ok (.invokespecial 91, 3) := wtJ8_hugeLength_7cf53_0.2.2.2.2.2.2.2.2.2.2.1
theorem dJ8_hugeLength_7cf53_19 : decode cJ8_hugeLength_7cf53 19 = .ok (.ldc 206, 2) := wtJ8_hugeLength_7cf53_0.2.2.2.2.2.2.2.2.2.2.2.1
theorem dJ8_hugeLength_7cf53_21 : decode cJ8_hugeLength_7cf53 21 = .ok (.invokevirtual 94, 3) := wtJ8_hugeLength_7cf53_0.2.2.2.2.2.2.2.2.2.2.2.2.1
theorem wtJ8_hugeLength_7cf53_24 : dwcj cJ8_hugeLength_7cf53 24 [(0, .iload_n 0, 1), (1, .invokevirtual 98, 3), (4, .ldc 208, 2), (6, .invokevirtual 94, 3), (9, .iload_n 1, 1), (10, .invokevirtual 98, 3), (13, .ldc 210, 2), (15, .invokevirtual 94, 3), (18, .invokevirtual 101, 3), (21, .invokespecial 212, 3)] := dw_all (l := [26, 182, 0, 98, 18, 208, 182, 0, 94, 27, 182, 0, 98, 18, 210, 182, 0, 94, 182, 0, 101, 183, 0, 212]) (by decide +kernel)
theorem dJ8_hugeLength_7cf53_24 : decode cJ8_hugeLength_7cf53 24 = .ok (.iload_n 0, 1) := wtJ8_hugeLength_7cf53_24.1
theorem dJ8_hugeLength_7cf53_25 : decode cJ8_hugeLength_7cf53 25 = .ok (.invokevirtual 98, 3) := wtJ8_hugeLength_7cf53_24.2.1
theorem dJ8_hugeLength_7cf53_28 : decode cJ8_hugeLength_7cf53 28 = .ok (.ldc 208, 2) := wtJ8_hugeLength_7cf53_24.2.2.1
theorem dJ8_hugeLength_7cf53_30 : decode cJ8_hugeLength_7cf53 30 = .ok (.invokevirtual 94, 3) := wtJ8_hugeLength_7cf53_24.2.2.2.1
theorem dJ8_hugeLength_7cf53_33 : decode cJ8_hugeLength_7cf53 33 = .ok (.iload_n 1, 1) := wtJ8_hugeLength_7cf53_24.2.2.2.2.1
theorem dJ8_hugeLength_7cf53_34 : decode cJ8_hugeLength_7cf53 34 = .ok (.invokevirtual 98, 3) := wtJ8_hugeLength_7cf53_24.2.2.2.2.2.1
theorem dJ8_hugeLength_7cf53_37 : decode cJ8_hugeLength_7cf53 37 = .ok (.ldc 210, 2) := wtJ8_hugeLength_7cf53_24.2.2.2.2.2.2.1
theorem dJ8_hugeLength_7cf53_39 : decode cJ8_hugeLength_7cf53 39 = .ok (.invokevirtual 94, 3) := wtJ8_hugeLength_7cf53_24.2.2.2.2.2.2.2.1
theorem dJ8_hugeLength_7cf53_42 : decode cJ8_hugeLength_7cf53 42 = .ok (.invokevirtual 101, 3) := wtJ8_hugeLength_7cf53_24.2.2.2.2.2.2.2.2.1
theorem dJ8_hugeLength_7cf53_45 : decode cJ8_hugeLength_7cf53 45 = .ok (.invokespecial 212, 3) := wtJ8_hugeLength_7cf53_24.2.2.2.2.2.2.2.2.2.1
theorem wtJ8_hugeLength_7cf53_48 : dwcj cJ8_hugeLength_7cf53 48 [(0, .athrow, 1), (1, .iload_n 2, 1), (2, .ldc 200, 2), (4, .if_icmp .gt 6, 3), (7, .ldc 200, 2), (9, .ireturn, 1), (10, .iload_n 2, 1), (11, .ireturn, 1)] := dw_all (l := [191, 28, 18, 200, 163, 0, 6, 18, 200, 172, 28, 172]) (by decide +kernel)
theorem dJ8_hugeLength_7cf53_48 : decode cJ8_hugeLength_7cf53 48 = .ok (.athrow, 1) := wtJ8_hugeLength_7cf53_48.1
theorem dJ8_hugeLength_7cf53_49 : decode cJ8_hugeLength_7cf53 49 = .ok (.iload_n 2, 1) := wtJ8_hugeLength_7cf53_48.2.1
theorem dJ8_hugeLength_7cf53_50 : decode cJ8_hugeLength_7cf53 50 = .ok (.ldc 200, 2) := wtJ8_hugeLength_7cf53_48.2.2.1
theorem dJ8_hugeLength_7cf53_52 : decode cJ8_hugeLength_7cf53 52 = .ok (.if_icmp .gt 6, 3) := wtJ8_hugeLength_7cf53_48.2.2.2.1
theorem dJ8_hugeLength_7cf53_55 : decode cJ8_hugeLength_7cf53 55 = .ok (.ldc 200, 2) := wtJ8_hugeLength_7cf53_48.2.2.2.2.1
theorem dJ8_hugeLength_7cf53_57 : decode cJ8_hugeLength_7cf53 57 = .ok (.ireturn, 1) := wtJ8_hugeLength_7cf53_48.2.2.2.2.2.1
theorem dJ8_hugeLength_7cf53_58 : decode cJ8_hugeLength_7cf53 58 = .ok (.iload_n 2, 1) := wtJ8_hugeLength_7cf53_48.2.2.2.2.2.2.1
theorem dJ8_hugeLength_7cf53_59 : decode cJ8_hugeLength_7cf53 59 = .ok (.ireturn, 1) := wtJ8_hugeLength_7cf53_48.2.2.2.2.2.2.2.1
theorem wtJ3_checkIndex_8e157_0 : dwcj cJ3_checkIndex_8e157 0 [(0, .iload_n 0, 1), (1, .ifCond .lt 8, 3), (4, .iload_n 0, 1), (5, .iload_n 1, 1), (6, .if_icmp .lt 10, 3), (9, .aload_n 2, 1), (10, .iload_n 0, 1), (11, .iload_n 1, 1), (12, .invokestatic 95, 3), (15, .athrow, 1), (16, .iload_n 0, 1), (17, .ireturn, 1)] := dw_all (l := [26, 155, 0, 8, 26, 27, 161, 0, 10, 44, 26, 27, 184, 0, 95, 191, 26, 172]) (by decide +kernel)
theorem dJ3_checkIndex_8e157_0 : decode cJ3_checkIndex_8e157 0 = .ok (.iload_n 0, 1) := wtJ3_checkIndex_8e157_0.1
theorem dJ3_checkIndex_8e157_1 : decode cJ3_checkIndex_8e157 1 = .ok (.ifCond .lt 8, 3) := wtJ3_checkIndex_8e157_0.2.1
theorem dJ3_checkIndex_8e157_4 : decode cJ3_checkIndex_8e157 4 = .ok (.iload_n 0, 1) := wtJ3_checkIndex_8e157_0.2.2.1
theorem dJ3_checkIndex_8e157_5 : decode cJ3_checkIndex_8e157 5 = .ok (.iload_n 1, 1) := wtJ3_checkIndex_8e157_0.2.2.2.1
theorem dJ3_checkIndex_8e157_6 : decode cJ3_checkIndex_8e157 6 = .ok (.if_icmp .lt 10, 3) := wtJ3_checkIndex_8e157_0.2.2.2.2.1
theorem dJ3_checkIndex_8e157_9 : decode cJ3_checkIndex_8e157 9 = .ok (.aload_n 2, 1) := wtJ3_checkIndex_8e157_0.2.2.2.2.2.1
theorem dJ3_checkIndex_8e157_10 : decode cJ3_checkIndex_8e157 10 = .ok (.iload_n 0, 1) := wtJ3_checkIndex_8e157_0.2.2.2.2.2.2.1
theorem dJ3_checkIndex_8e157_11 : decode cJ3_checkIndex_8e157 11 = .ok (.iload_n 1, 1) := wtJ3_checkIndex_8e157_0.2.2.2.2.2.2.2.1
theorem dJ3_checkIndex_8e157_12 : decode cJ3_checkIndex_8e157 12 = .ok (.invokestatic 95, 3) := wtJ3_checkIndex_8e157_0.2.2.2.2.2.2.2.2.1
theorem dJ3_checkIndex_8e157_15 : decode cJ3_checkIndex_8e157 15 = .ok (.athrow, 1) := wtJ3_checkIndex_8e157_0.2.2.2.2.2.2.2.2.2.1
theorem dJ3_checkIndex_8e157_16 : decode cJ3_checkIndex_8e157 16 = .ok (.iload_n 0, 1) := wtJ3_checkIndex_8e157_0.2.2.2.2.2.2.2.2.2.2.1
theorem dJ3_checkIndex_8e157_17 : decode cJ3_checkIndex_8e157 17 = .ok (.ireturn, 1) := wtJ3_checkIndex_8e157_0.2.2.2.2.2.2.2.2.2.2.2.1
theorem wtJ3_checkFromToIndex_8c36e_0 : dwcj cJ3_checkFromToIndex_8c36e 0 [(0, .iload_n 0, 1), (1, .ifCond .lt 13, 3), (4, .iload_n 0, 1), (5, .iload_n 1, 1), (6, .if_icmp .gt 8, 3), (9, .iload_n 1, 1), (10, .iload_n 2, 1), (11, .if_icmp .le 11, 3), (14, .aload_n 3, 1), (15, .iload_n 0, 1), (16, .iload_n 1, 1), (17, .iload_n 2, 1), (18, .invokestatic 99, 3), (21, .athrow, 1), (22, .iload_n 0, 1), (23, .ireturn, 1)] := dw_all (l := [26, 155, 0, 13, 26, 27, 163, 0, 8, 27, 28, 164, 0, 11, 45, 26, 27, 28, 184, 0, 99, 191, 26, 172]) (by decide +kernel)
theorem dJ3_checkFromToIndex_8c36e_0 : decode cJ3_checkFromToIndex_8c36e 0 = .ok (.iload_n 0, 1) := wtJ3_checkFromToIndex_8c36e_0.1
theorem dJ3_checkFromToIndex_8c36e_1 : decode cJ3_checkFromToIndex_8c36e 1 = .ok (.ifCond .lt 13, 3) := wtJ3_checkFromToIndex_8c36e_0.2.1
theorem dJ3_checkFromToIndex_8c36e_4 : decode cJ3_checkFromToIndex_8c36e 4 = .ok (.iload_n 0, 1) := wtJ3_checkFromToIndex_8c36e_0.2.2.1
theorem dJ3_checkFromToIndex_8c36e_5 : decode cJ3_checkFromToIndex_8c36e 5 = .ok (.iload_n 1, 1) := wtJ3_checkFromToIndex_8c36e_0.2.2.2.1
theorem dJ3_checkFromToIndex_8c36e_6 : decode cJ3_checkFromToIndex_8c36e 6 = .ok (.if_icmp .gt 8, 3) := wtJ3_checkFromToIndex_8c36e_0.2.2.2.2.1
theorem dJ3_checkFromToIndex_8c36e_9 : decode cJ3_checkFromToIndex_8c36e 9 = .ok (.iload_n 1, 1) := wtJ3_checkFromToIndex_8c36e_0.2.2.2.2.2.1
theorem dJ3_checkFromToIndex_8c36e_10 : decode cJ3_checkFromToIndex_8c36e 10 = .ok (.iload_n 2, 1) := wtJ3_checkFromToIndex_8c36e_0.2.2.2.2.2.2.1
theorem dJ3_checkFromToIndex_8c36e_11 : decode cJ3_checkFromToIndex_8c36e 11 = .ok (.if_icmp .le 11, 3) := wtJ3_checkFromToIndex_8c36e_0.2.2.2.2.2.2.2.1
theorem dJ3_checkFromToIndex_8c36e_14 : decode cJ3_checkFromToIndex_8c36e 14 = .ok (.aload_n 3, 1) := wtJ3_checkFromToIndex_8c36e_0.2.2.2.2.2.2.2.2.1
theorem dJ3_checkFromToIndex_8c36e_15 : decode cJ3_checkFromToIndex_8c36e 15 = .ok (.iload_n 0, 1) := wtJ3_checkFromToIndex_8c36e_0.2.2.2.2.2.2.2.2.2.1
theorem dJ3_checkFromToIndex_8c36e_16 : decode cJ3_checkFromToIndex_8c36e 16 = .ok (.iload_n 1, 1) := wtJ3_checkFromToIndex_8c36e_0.2.2.2.2.2.2.2.2.2.2.1
theorem dJ3_checkFromToIndex_8c36e_17 : decode cJ3_checkFromToIndex_8c36e 17 = .ok (.iload_n 2, 1) := wtJ3_checkFromToIndex_8c36e_0.2.2.2.2.2.2.2.2.2.2.2.1
theorem dJ3_checkFromToIndex_8c36e_18 : decode cJ3_checkFromToIndex_8c36e 18 = .ok (.invokestatic 99, 3) := wtJ3_checkFromToIndex_8c36e_0.2.2.2.2.2.2.2.2.2.2.2.2.1
theorem dJ3_checkFromToIndex_8c36e_21 : decode cJ3_checkFromToIndex_8c36e 21 = .ok (.athrow, 1) := wtJ3_checkFromToIndex_8c36e_0.2.2.2.2.2.2.2.2.2.2.2.2.2.1
theorem dJ3_checkFromToIndex_8c36e_22 : decode cJ3_checkFromToIndex_8c36e 22 = .ok (.iload_n 0, 1) := wtJ3_checkFromToIndex_8c36e_0.2.2.2.2.2.2.2.2.2.2.2.2.2.2.1
theorem dJ3_checkFromToIndex_8c36e_23 : decode cJ3_checkFromToIndex_8c36e 23 = .ok (.ireturn, 1) := wtJ3_checkFromToIndex_8c36e_0.2.2.2.2.2.2.2.2.2.2.2.2.2.2.2.1
theorem wtJ3_checkFromIndexSize_8c36e_0 : dwcj cJ3_checkFromIndexSize_8c36e 0 [(0, .iload_n 2, 1), (1, .iload_n 0, 1), (2, .ior, 1), (3, .iload_n 1, 1), (4, .ior, 1), (5, .ifCond .lt 10, 3), (8, .iload_n 1, 1), (9, .iload_n 2, 1), (10, .iload_n 0, 1), (11, .isub, 1), (12, .if_icmp .le 11, 3), (15, .aload_n 3, 1), (16, .iload_n 0, 1), (17, .iload_n 1, 1), (18, .iload_n 2, 1), (19, .invokestatic 103, 3), (22, .athrow, 1), (23, .iload_n 0, 1)] := dw_all (l := [28, 26, 128, 27, 128, 155, 0, 10, 27, 28, 26, 100, 164, 0, 11, 45, 26, 27, 28, 184, 0, 103, 191, 26]) (by decide +kernel)
theorem dJ3_checkFromIndexSize_8c36e_0 : decode cJ3_checkFromIndexSize_8c36e 0 = .ok (.iload_n 2, 1) := wtJ3_checkFromIndexSize_8c36e_0.1
theorem dJ3_checkFromIndexSize_8c36e_1 : decode cJ3_checkFromIndexSize_8c36e 1 = .ok (.iload_n 0, 1) := wtJ3_checkFromIndexSize_8c36e_0.2.1
theorem dJ3_checkFromIndexSize_8c36e_2 : decode cJ3_checkFromIndexSize_8c36e 2 = .ok (.ior, 1) := wtJ3_checkFromIndexSize_8c36e_0.2.2.1
theorem dJ3_checkFromIndexSize_8c36e_3 : decode cJ3_checkFromIndexSize_8c36e 3 = .ok (.iload_n 1, 1) := wtJ3_checkFromIndexSize_8c36e_0.2.2.2.1
theorem dJ3_checkFromIndexSize_8c36e_4 : decode cJ3_checkFromIndexSize_8c36e 4 = .ok (.ior, 1) := wtJ3_checkFromIndexSize_8c36e_0.2.2.2.2.1
theorem dJ3_checkFromIndexSize_8c36e_5 : decode cJ3_checkFromIndexSize_8c36e 5 = .ok (.ifCond .lt 10, 3) := wtJ3_checkFromIndexSize_8c36e_0.2.2.2.2.2.1
theorem dJ3_checkFromIndexSize_8c36e_8 : decode cJ3_checkFromIndexSize_8c36e 8 = .ok (.iload_n 1, 1) := wtJ3_checkFromIndexSize_8c36e_0.2.2.2.2.2.2.1
theorem dJ3_checkFromIndexSize_8c36e_9 : decode cJ3_checkFromIndexSize_8c36e 9 = .ok (.iload_n 2, 1) := wtJ3_checkFromIndexSize_8c36e_0.2.2.2.2.2.2.2.1
theorem dJ3_checkFromIndexSize_8c36e_10 : decode cJ3_checkFromIndexSize_8c36e 10 = .ok (.iload_n 0, 1) := wtJ3_checkFromIndexSize_8c36e_0.2.2.2.2.2.2.2.2.1
theorem dJ3_checkFromIndexSize_8c36e_11 : decode cJ3_checkFromIndexSize_8c36e 11 = .ok (.isub, 1) := wtJ3_checkFromIndexSize_8c36e_0.2.2.2.2.2.2.2.2.2.1
theorem dJ3_checkFromIndexSize_8c36e_12 : decode cJ3_checkFromIndexSize_8c36e 12 = .ok (.if_icmp .le 11, 3) := wtJ3_checkFromIndexSize_8c36e_0.2.2.2.2.2.2.2.2.2.2.1
theorem dJ3_checkFromIndexSize_8c36e_15 : decode cJ3_checkFromIndexSize_8c36e 15 = .ok (.aload_n 3, 1) := wtJ3_checkFromIndexSize_8c36e_0.2.2.2.2.2.2.2.2.2.2.2.1
theorem dJ3_checkFromIndexSize_8c36e_16 : decode cJ3_checkFromIndexSize_8c36e 16 = .ok (.iload_n 0, 1) := wtJ3_checkFromIndexSize_8c36e_0.2.2.2.2.2.2.2.2.2.2.2.2.1
theorem dJ3_checkFromIndexSize_8c36e_17 : decode cJ3_checkFromIndexSize_8c36e 17 = .ok (.iload_n 1, 1) := wtJ3_checkFromIndexSize_8c36e_0.2.2.2.2.2.2.2.2.2.2.2.2.2.1
theorem dJ3_checkFromIndexSize_8c36e_18 : decode cJ3_checkFromIndexSize_8c36e 18 = .ok (.iload_n 2, 1) := wtJ3_checkFromIndexSize_8c36e_0.2.2.2.2.2.2.2.2.2.2.2.2.2.2.1
theorem dJ3_checkFromIndexSize_8c36e_19 : decode cJ3_checkFromIndexSize_8c36e 19 = .ok (.invokestatic 103, 3) := wtJ3_checkFromIndexSize_8c36e_0.2.2.2.2.2.2.2.2.2.2.2.2.2.2.2.1
theorem dJ3_checkFromIndexSize_8c36e_22 : decode cJ3_checkFromIndexSize_8c36e 22 = .ok (.athrow, 1) := wtJ3_checkFromIndexSize_8c36e_0.2.2.2.2.2.2.2.2.2.2.2.2.2.2.2.2.1
theorem dJ3_checkFromIndexSize_8c36e_23 : decode cJ3_checkFromIndexSize_8c36e 23 = .ok (.iload_n 0, 1) := wtJ3_checkFromIndexSize_8c36e_0.2.2.2.2.2.2.2.2.2.2.2.2.2.2.2.2.2.1
theorem wtJ3_checkFromIndexSize_8c36e_24 : dwcj cJ3_checkFromIndexSize_8c36e 24 [(0, .ireturn, 1)] := dw_all (l := [172]) (by decide +kernel)
theorem dJ3_checkFromIndexSize_8c36e_24 : decode cJ3_checkFromIndexSize_8c36e 24 = .ok (.ireturn, 1) := wtJ3_checkFromIndexSize_8c36e_24.1
