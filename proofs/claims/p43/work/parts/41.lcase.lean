/-! ===== the law's cases ===== -/
section LC
variable {p : Program} {l : Launch} {e : Env} {s : State} {m : MethodId} {args : Array Value} {below : List Frame} {meth : Method} {c0 : Code} {Qw : State → Prop} {D : va_G} {cB cJ : ClassId} {t N : Nat} {g : Nat → Int} {o a u v w : Nat}
/-- what comes after a case -/
def zNx (p : Program) (l : Launch) (e : Env) (s : State) (m : MethodId) (args : Array Value) (below : List Frame) (meth : Method) (c0 : Code) (D : va_G) (cJ : ClassId) (t o a u v w : Nat) (x : Int) (cells slots : Nat) (Qw : State → Prop) (pc : Nat) : Prop :=
  ∀ (c : Nat → Nat) (ac re kn : Int32) (th : Int) (n : Int64) (sv : Value) (H : Heap) (locs : List Loc) (ls : Array Slot) (cells2 slots2 : Nat), zG D cJ o a u v w c [.int ac, .int re, .int kn] c [.int (iZ th), .int ac, .int re, .int kn] n sv s H locs → cells2 ≤ cells + 150 → slots2 ≤ slots + 75000 → lv_has ls 7 [(0, .ref t), (1, .ref o), (2, .ref u), (3, .ref w), (4, .int (iZ x))] → W p l e room_1 s m args below meth c0 H locs cells2 slots2 Qw (F0 m pc ls [])
theorem zd_eqv {R : Room} {c : Code} {H : Heap} {locs : List Loc} {cells slots : Nat} {cc : ByteArray} {pc nL : Nat} {ls : Array Slot} {rest : List Value} {own : String} (C : CallFix p m c cc nL s args T0 own) {y z : Int32} {off : Int} {tgt : Nat} (h : z = y) (d : decode cc pc = .ok (.if_icmp .eq off, 3)) (ht : (pc : Int) + off = (tgt : Int)) (k : W p l e R s m args below meth c H locs cells slots Qw (F0 m tgt ls rest)) : W p l e R s m args below meth c H locs cells slots Qw (F0 m pc ls (.int y :: .int z :: rest)) :=
  lv_icmp_eq C.1 C.2.1 d ht (fun _ => k) (fun g => absurd h g)

set_option maxHeartbeats 4000000 in
set_option maxRecDepth 100000 in
theorem lk_0 (hlq : l.stackTraces = false) (C : CallFix p m c0 cL_law 7 s args T0 RL) (Z : zLw D cB t N g s) (Y : zAd o a u v w s) {c : Nat → Nat} {ac re kn : Int32} {th : Int} {n : Int64} {sv : Value} {H : Heap} {locs : List Loc} {ls : Array Slot} {cells slots : Nat} (G : zG D cJ o a u v w c [.int ac, .int re, .int kn] c [.int (iZ th), .int ac, .int re, .int kn] n sv s H locs) (x : Int) (hx : 0 ≤ x ∧ x + 5 ≤ (N : Int)) (hf : cells + 150 ≤ 665281 ∧ slots + 75000 ≤ 7105636) (hl : lv_has ls 7 [(0, .ref t), (1, .ref o), (2, .ref u), (3, .ref w), (4, .int (iZ (x)))])
    (kk : zNx p l e s m args below meth c0 D cJ t o a u v w x cells slots Qw 2200) : W p l e room_1 s m args below meth c0 H locs cells slots Qw (F0 m 244 ls []) := by
  have hc := G.1.2.2.2
  obtain ⟨q1, e1⟩ : ∃ z, g (x.toNat + 1) = z := ⟨_, rfl⟩
  have r1 : -2147483648 ≤ q1 ∧ q1 ≤ 2147483647 := e1 ▸ Z.2.2.2.2.2.1 _
  obtain ⟨q2, e2⟩ : ∃ z, g (x.toNat + 2) = z := ⟨_, rfl⟩
  have r2 : -2147483648 ≤ q2 ∧ q2 ≤ 2147483647 := e2 ▸ Z.2.2.2.2.2.1 _
  by_cases hcel : (0 ≤ q1 ∧ q1 ≤ 5)
  · skip
    refine lv_aload_n C.1 C.2.1 dL_law_244 rfl (lv_at hl 1 rfl) ?_
    refine lv_aload_n C.1 C.2.1 dL_law_245 rfl (lv_at hl 0 rfl) ?_
    refine lv_iload C.1 C.2.1 dL_law_246 (lv_at hl 4 rfl) ?_
    refine z_iconst C dL_law_248 ?_
    refine z_iadd C dL_law_249 ?_
    refine zd_ld C Z G q1 (x.toNat + 1) e1 (by omega) (by omega) dL_law_250 ?_
    refine lv_aload_n C.1 C.2.1 dL_law_251 rfl (lv_at hl 0 rfl) ?_
    refine lv_iload C.1 C.2.1 dL_law_252 (lv_at hl 4 rfl) ?_
    refine z_iconst C dL_law_254 ?_
    refine z_iadd C dL_law_255 ?_
    refine zd_ld C Z G q2 (x.toNat + 2) e2 (by omega) (by omega) dL_law_256 ?_
    refine lv_aload_n C.1 C.2.1 dL_law_257 rfl (lv_at hl 3 rfl) ?_
    refine zd_W (as := [.ref o, .int (iZ (q1)), .int (iZ (q2)), .ref w]) C Z Y G (c_L_put l D cJ o a _ _ _ _ (q1) (q2) (by first | assumption | omega) (by first | assumption | omega) w _ _) ml_L_171 ⟨Nat.le_of_ble_eq_true rfl, Nat.le_of_ble_eq_true rfl⟩ ⟨by show cells + 0 + 0 ≤ 665281; omega, by show slots + 0 + 0 ≤ 7105636; omega⟩ hl (Nat.le_of_ble_eq_true rfl) rfl dL_law_258 (fun H locs G => ?_)
    refine lv_istore (lv' := [(5, .int (iZ (0))), (0, .ref t), (1, .ref o), (2, .ref u), (3, .ref w), (4, .int (iZ (x)))]) C.1 C.2.1 dL_law_261 hl (by decide) rfl (fun ls hl => ?_)
    refine lv_aload_n C.1 C.2.1 dL_law_263 rfl (lv_at hl 3 rfl) ?_
    refine lv_aload_n C.1 C.2.1 dL_law_264 rfl (lv_at hl 1 rfl) ?_
    refine lv_iload C.1 C.2.1 dL_law_265 (lv_at hl 5 rfl) ?_
    refine z_iconst C dL_law_267 ?_
    refine z_iadd C dL_law_268 ?_
    refine zd_ld C Z G q1 (x.toNat + 1) e1 (by omega) (by omega) dL_law_269 ?_
    refine lv_aload_n C.1 C.2.1 dL_law_270 rfl (lv_at hl 1 rfl) ?_
    refine lv_iload C.1 C.2.1 dL_law_271 (lv_at hl 5 rfl) ?_
    refine z_iconst C dL_law_273 ?_
    refine z_iadd C dL_law_274 ?_
    refine zd_ld C Z G q2 (x.toNat + 2) e2 (by omega) (by omega) dL_law_275 ?_
    refine zd_M (as := [.int (iZ (q1)), .int (iZ (q2))]) C Y G (c_X5_put l D cJ u v _ _ _ _ _ (q1) (q2) (by first | assumption | omega) (by first | assumption | omega)) ml_L_176 rfl ⟨Nat.le_of_ble_eq_true rfl, Nat.le_of_ble_eq_true rfl⟩ ⟨by show cells + 0 + 0 ≤ 665281; omega, by show slots + 0 + 0 ≤ 7105636; omega⟩ hl (Nat.le_of_ble_eq_true rfl) rfl dL_law_276 (fun y9 H locs hy9 G => ?_)
    subst hy9
    refine lv_istore (lv' := [(6, _), (5, .int (iZ (0))), (0, .ref t), (1, .ref o), (2, .ref u), (3, .ref w), (4, .int (iZ (x)))]) C.1 C.2.1 dL_law_279 hl (by decide) rfl (fun ls hl => ?_)
    refine lv_goto (tgt := 2200) C.1 C.2.1 dL_law_281 (by decide) ?_
    exact kk _ _ _ _ _ _ _ _ _ _ _ _ G (by omega) (by omega) (lv_sub hl [2, 3, 4, 5, 6] rfl)
  · skip
    refine lv_aload_n C.1 C.2.1 dL_law_244 rfl (lv_at hl 1 rfl) ?_
    refine lv_aload_n C.1 C.2.1 dL_law_245 rfl (lv_at hl 0 rfl) ?_
    refine lv_iload C.1 C.2.1 dL_law_246 (lv_at hl 4 rfl) ?_
    refine z_iconst C dL_law_248 ?_
    refine z_iadd C dL_law_249 ?_
    refine zd_ld C Z G q1 (x.toNat + 1) e1 (by omega) (by omega) dL_law_250 ?_
    refine lv_aload_n C.1 C.2.1 dL_law_251 rfl (lv_at hl 0 rfl) ?_
    refine lv_iload C.1 C.2.1 dL_law_252 (lv_at hl 4 rfl) ?_
    refine z_iconst C dL_law_254 ?_
    refine z_iadd C dL_law_255 ?_
    refine zd_ld C Z G q2 (x.toNat + 2) e2 (by omega) (by omega) dL_law_256 ?_
    refine lv_aload_n C.1 C.2.1 dL_law_257 rfl (lv_at hl 3 rfl) ?_
    refine zd_W (as := [.ref o, .int (iZ (q1)), .int (iZ (q2)), .ref w]) C Z Y G (c_L_put_badc l hlq D cJ o a _ _ _ _ (q1) (q2) (by first | assumption | omega) (by first | assumption | omega) (by first | assumption | omega) w _ _) ml_L_171 ⟨Nat.le_of_ble_eq_true rfl, Nat.le_of_ble_eq_true rfl⟩ ⟨by show cells + 0 + 1 ≤ 665281; omega, by show slots + 0 + 6 ≤ 7105636; omega⟩ hl (Nat.le_of_ble_eq_true rfl) rfl dL_law_258 (fun H locs G => ?_)
    refine lv_istore (lv' := [(5, .int (iZ (1))), (0, .ref t), (1, .ref o), (2, .ref u), (3, .ref w), (4, .int (iZ (x)))]) C.1 C.2.1 dL_law_261 hl (by decide) rfl (fun ls hl => ?_)
    refine lv_aload_n C.1 C.2.1 dL_law_263 rfl (lv_at hl 3 rfl) ?_
    refine lv_aload_n C.1 C.2.1 dL_law_264 rfl (lv_at hl 1 rfl) ?_
    refine lv_iload C.1 C.2.1 dL_law_265 (lv_at hl 5 rfl) ?_
    refine z_iconst C dL_law_267 ?_
    refine z_iadd C dL_law_268 ?_
    refine zd_ld C Z G q1 (x.toNat + 1) e1 (by omega) (by omega) dL_law_269 ?_
    refine lv_aload_n C.1 C.2.1 dL_law_270 rfl (lv_at hl 1 rfl) ?_
    refine lv_iload C.1 C.2.1 dL_law_271 (lv_at hl 5 rfl) ?_
    refine z_iconst C dL_law_273 ?_
    refine z_iadd C dL_law_274 ?_
    refine zd_ld C Z G q2 (x.toNat + 2) e2 (by omega) (by omega) dL_law_275 ?_
    refine zd_M (as := [.int (iZ (q1)), .int (iZ (q2))]) C Y G (c_X5_put_bad1 l D cJ u v _ _ _ _ _ (q1) (q2) (by first | assumption | omega) (by first | assumption | omega) (by first | assumption | omega)) ml_L_176 rfl ⟨Nat.le_of_ble_eq_true rfl, Nat.le_of_ble_eq_true rfl⟩ ⟨by show cells + 1 + 0 ≤ 665281; omega, by show slots + 6 + 0 ≤ 7105636; omega⟩ hl (Nat.le_of_ble_eq_true rfl) rfl dL_law_276 (fun y9 H locs hy9 G => ?_)
    subst hy9
    refine lv_istore (lv' := [(6, _), (5, .int (iZ (1))), (0, .ref t), (1, .ref o), (2, .ref u), (3, .ref w), (4, .int (iZ (x)))]) C.1 C.2.1 dL_law_279 hl (by decide) rfl (fun ls hl => ?_)
    refine lv_goto (tgt := 2200) C.1 C.2.1 dL_law_281 (by decide) ?_
    exact kk _ _ _ _ _ _ _ _ _ _ _ _ G (by omega) (by omega) (lv_sub hl [2, 3, 4, 5, 6] rfl)
set_option maxHeartbeats 4000000 in
set_option maxRecDepth 100000 in
theorem lk_1 (hlq : l.stackTraces = false) (C : CallFix p m c0 cL_law 7 s args T0 RL) (Z : zLw D cB t N g s) (Y : zAd o a u v w s) {c : Nat → Nat} {ac re kn : Int32} {th : Int} {n : Int64} {sv : Value} {H : Heap} {locs : List Loc} {ls : Array Slot} {cells slots : Nat} (G : zG D cJ o a u v w c [.int ac, .int re, .int kn] c [.int (iZ th), .int ac, .int re, .int kn] n sv s H locs) (x : Int) (hx : 0 ≤ x ∧ x + 5 ≤ (N : Int)) (hf : cells + 150 ≤ 665281 ∧ slots + 75000 ≤ 7105636) (hl : lv_has ls 7 [(0, .ref t), (1, .ref o), (2, .ref u), (3, .ref w), (4, .int (iZ (x)))])
    (kk : zNx p l e s m args below meth c0 D cJ t o a u v w x cells slots Qw 2200) : W p l e room_1 s m args below meth c0 H locs cells slots Qw (F0 m 284 ls []) := by
  have hc := G.1.2.2.2
  obtain ⟨q1, e1⟩ : ∃ z, g (x.toNat + 1) = z := ⟨_, rfl⟩
  have r1 : -2147483648 ≤ q1 ∧ q1 ≤ 2147483647 := e1 ▸ Z.2.2.2.2.2.1 _
  obtain ⟨q2, e2⟩ : ∃ z, g (x.toNat + 2) = z := ⟨_, rfl⟩
  have r2 : -2147483648 ≤ q2 ∧ q2 ≤ 2147483647 := e2 ▸ Z.2.2.2.2.2.1 _
  by_cases hcel : (0 ≤ q1 ∧ q1 ≤ 5)
  · skip
    by_cases hrng : (0 ≤ q2 ∧ q2 ≤ 32)
    · skip
      refine lv_aload_n C.1 C.2.1 dL_law_284 rfl (lv_at hl 1 rfl) ?_
      refine lv_aload_n C.1 C.2.1 dL_law_285 rfl (lv_at hl 0 rfl) ?_
      refine lv_iload C.1 C.2.1 dL_law_286 (lv_at hl 4 rfl) ?_
      refine z_iconst C dL_law_288 ?_
      refine z_iadd C dL_law_289 ?_
      refine zd_ld C Z G q1 (x.toNat + 1) e1 (by omega) (by omega) dL_law_290 ?_
      refine lv_aload_n C.1 C.2.1 dL_law_291 rfl (lv_at hl 0 rfl) ?_
      refine lv_iload C.1 C.2.1 dL_law_292 (lv_at hl 4 rfl) ?_
      refine z_iconst C dL_law_294 ?_
      refine z_iadd C dL_law_295 ?_
      refine zd_ld C Z G q2 (x.toNat + 2) e2 (by omega) (by omega) dL_law_296 ?_
      refine lv_aload_n C.1 C.2.1 dL_law_297 rfl (lv_at hl 3 rfl) ?_
      refine zd_W (as := [.ref o, .int (iZ (q1)), .int (iZ (q2)), .ref w]) C Z Y G (c_L_mono l D cJ o a _ _ _ _ (q1) (q2) (by first | assumption | omega) (by first | assumption | omega) w _ _) ml_L_177 ⟨Nat.le_of_ble_eq_true rfl, Nat.le_of_ble_eq_true rfl⟩ ⟨by show cells + 0 + 0 ≤ 665281; omega, by show slots + 0 + 0 ≤ 7105636; omega⟩ hl (Nat.le_of_ble_eq_true rfl) rfl dL_law_298 (fun H locs G => ?_)
      refine lv_istore (lv' := [(5, .int (iZ (0))), (0, .ref t), (1, .ref o), (2, .ref u), (3, .ref w), (4, .int (iZ (x)))]) C.1 C.2.1 dL_law_301 hl (by decide) rfl (fun ls hl => ?_)
      refine lv_aload_n C.1 C.2.1 dL_law_303 rfl (lv_at hl 3 rfl) ?_
      refine lv_aload_n C.1 C.2.1 dL_law_304 rfl (lv_at hl 1 rfl) ?_
      refine lv_iload C.1 C.2.1 dL_law_305 (lv_at hl 5 rfl) ?_
      refine z_iconst C dL_law_307 ?_
      refine z_iadd C dL_law_308 ?_
      refine zd_ld C Z G q1 (x.toNat + 1) e1 (by omega) (by omega) dL_law_309 ?_
      refine lv_aload_n C.1 C.2.1 dL_law_310 rfl (lv_at hl 1 rfl) ?_
      refine lv_iload C.1 C.2.1 dL_law_311 (lv_at hl 5 rfl) ?_
      refine z_iconst C dL_law_313 ?_
      refine z_iadd C dL_law_314 ?_
      refine zd_ld C Z G q2 (x.toNat + 2) e2 (by omega) (by omega) dL_law_315 ?_
      refine zd_M (as := [.int (iZ (q1)), .int (iZ (q2))]) C Y G (c_X5_mono l D cJ u v _ _ _ _ _ (q1) (q2) (by first | assumption | omega) (by first | assumption | omega)) ml_L_179 rfl ⟨Nat.le_of_ble_eq_true rfl, Nat.le_of_ble_eq_true rfl⟩ ⟨by show cells + 0 + 0 ≤ 665281; omega, by show slots + 0 + 0 ≤ 7105636; omega⟩ hl (Nat.le_of_ble_eq_true rfl) rfl dL_law_316 (fun y9 H locs hy9 G => ?_)
      subst hy9
      refine lv_istore (lv' := [(6, _), (5, .int (iZ (0))), (0, .ref t), (1, .ref o), (2, .ref u), (3, .ref w), (4, .int (iZ (x)))]) C.1 C.2.1 dL_law_319 hl (by decide) rfl (fun ls hl => ?_)
      refine lv_goto (tgt := 2200) C.1 C.2.1 dL_law_321 (by decide) ?_
      exact kk _ _ _ _ _ _ _ _ _ _ _ _ G (by omega) (by omega) (lv_sub hl [2, 3, 4, 5, 6] rfl)
    · skip
      refine lv_aload_n C.1 C.2.1 dL_law_284 rfl (lv_at hl 1 rfl) ?_
      refine lv_aload_n C.1 C.2.1 dL_law_285 rfl (lv_at hl 0 rfl) ?_
      refine lv_iload C.1 C.2.1 dL_law_286 (lv_at hl 4 rfl) ?_
      refine z_iconst C dL_law_288 ?_
      refine z_iadd C dL_law_289 ?_
      refine zd_ld C Z G q1 (x.toNat + 1) e1 (by omega) (by omega) dL_law_290 ?_
      refine lv_aload_n C.1 C.2.1 dL_law_291 rfl (lv_at hl 0 rfl) ?_
      refine lv_iload C.1 C.2.1 dL_law_292 (lv_at hl 4 rfl) ?_
      refine z_iconst C dL_law_294 ?_
      refine z_iadd C dL_law_295 ?_
      refine zd_ld C Z G q2 (x.toNat + 2) e2 (by omega) (by omega) dL_law_296 ?_
      refine lv_aload_n C.1 C.2.1 dL_law_297 rfl (lv_at hl 3 rfl) ?_
      refine zd_W (as := [.ref o, .int (iZ (q1)), .int (iZ (q2)), .ref w]) C Z Y G (c_L_mono_badr l hlq D cJ o a _ _ _ _ (q1) (q2) (by first | assumption | omega) (by first | assumption | omega) (by first | assumption | omega) (by first | assumption | omega) w _ _) ml_L_177 ⟨Nat.le_of_ble_eq_true rfl, Nat.le_of_ble_eq_true rfl⟩ ⟨by show cells + 0 + 1 ≤ 665281; omega, by show slots + 0 + 6 ≤ 7105636; omega⟩ hl (Nat.le_of_ble_eq_true rfl) rfl dL_law_298 (fun H locs G => ?_)
      refine lv_istore (lv' := [(5, .int (iZ (2))), (0, .ref t), (1, .ref o), (2, .ref u), (3, .ref w), (4, .int (iZ (x)))]) C.1 C.2.1 dL_law_301 hl (by decide) rfl (fun ls hl => ?_)
      refine lv_aload_n C.1 C.2.1 dL_law_303 rfl (lv_at hl 3 rfl) ?_
      refine lv_aload_n C.1 C.2.1 dL_law_304 rfl (lv_at hl 1 rfl) ?_
      refine lv_iload C.1 C.2.1 dL_law_305 (lv_at hl 5 rfl) ?_
      refine z_iconst C dL_law_307 ?_
      refine z_iadd C dL_law_308 ?_
      refine zd_ld C Z G q1 (x.toNat + 1) e1 (by omega) (by omega) dL_law_309 ?_
      refine lv_aload_n C.1 C.2.1 dL_law_310 rfl (lv_at hl 1 rfl) ?_
      refine lv_iload C.1 C.2.1 dL_law_311 (lv_at hl 5 rfl) ?_
      refine z_iconst C dL_law_313 ?_
      refine z_iadd C dL_law_314 ?_
      refine zd_ld C Z G q2 (x.toNat + 2) e2 (by omega) (by omega) dL_law_315 ?_
      refine zd_M (as := [.int (iZ (q1)), .int (iZ (q2))]) C Y G (c_X5_mono_bad2 l D cJ u v _ _ _ _ _ (q1) (q2) (by first | assumption | omega) (by first | assumption | omega) (by first | assumption | omega) (by first | assumption | omega)) ml_L_179 rfl ⟨Nat.le_of_ble_eq_true rfl, Nat.le_of_ble_eq_true rfl⟩ ⟨by show cells + 1 + 0 ≤ 665281; omega, by show slots + 6 + 0 ≤ 7105636; omega⟩ hl (Nat.le_of_ble_eq_true rfl) rfl dL_law_316 (fun y9 H locs hy9 G => ?_)
      subst hy9
      refine lv_istore (lv' := [(6, _), (5, .int (iZ (2))), (0, .ref t), (1, .ref o), (2, .ref u), (3, .ref w), (4, .int (iZ (x)))]) C.1 C.2.1 dL_law_319 hl (by decide) rfl (fun ls hl => ?_)
      refine lv_goto (tgt := 2200) C.1 C.2.1 dL_law_321 (by decide) ?_
      exact kk _ _ _ _ _ _ _ _ _ _ _ _ G (by omega) (by omega) (lv_sub hl [2, 3, 4, 5, 6] rfl)
  · skip
    refine lv_aload_n C.1 C.2.1 dL_law_284 rfl (lv_at hl 1 rfl) ?_
    refine lv_aload_n C.1 C.2.1 dL_law_285 rfl (lv_at hl 0 rfl) ?_
    refine lv_iload C.1 C.2.1 dL_law_286 (lv_at hl 4 rfl) ?_
    refine z_iconst C dL_law_288 ?_
    refine z_iadd C dL_law_289 ?_
    refine zd_ld C Z G q1 (x.toNat + 1) e1 (by omega) (by omega) dL_law_290 ?_
    refine lv_aload_n C.1 C.2.1 dL_law_291 rfl (lv_at hl 0 rfl) ?_
    refine lv_iload C.1 C.2.1 dL_law_292 (lv_at hl 4 rfl) ?_
    refine z_iconst C dL_law_294 ?_
    refine z_iadd C dL_law_295 ?_
    refine zd_ld C Z G q2 (x.toNat + 2) e2 (by omega) (by omega) dL_law_296 ?_
    refine lv_aload_n C.1 C.2.1 dL_law_297 rfl (lv_at hl 3 rfl) ?_
    refine zd_W (as := [.ref o, .int (iZ (q1)), .int (iZ (q2)), .ref w]) C Z Y G (c_L_mono_badc l hlq D cJ o a _ _ _ _ (q1) (q2) (by first | assumption | omega) (by first | assumption | omega) (by first | assumption | omega) w _ _) ml_L_177 ⟨Nat.le_of_ble_eq_true rfl, Nat.le_of_ble_eq_true rfl⟩ ⟨by show cells + 0 + 1 ≤ 665281; omega, by show slots + 0 + 6 ≤ 7105636; omega⟩ hl (Nat.le_of_ble_eq_true rfl) rfl dL_law_298 (fun H locs G => ?_)
    refine lv_istore (lv' := [(5, .int (iZ (1))), (0, .ref t), (1, .ref o), (2, .ref u), (3, .ref w), (4, .int (iZ (x)))]) C.1 C.2.1 dL_law_301 hl (by decide) rfl (fun ls hl => ?_)
    refine lv_aload_n C.1 C.2.1 dL_law_303 rfl (lv_at hl 3 rfl) ?_
    refine lv_aload_n C.1 C.2.1 dL_law_304 rfl (lv_at hl 1 rfl) ?_
    refine lv_iload C.1 C.2.1 dL_law_305 (lv_at hl 5 rfl) ?_
    refine z_iconst C dL_law_307 ?_
    refine z_iadd C dL_law_308 ?_
    refine zd_ld C Z G q1 (x.toNat + 1) e1 (by omega) (by omega) dL_law_309 ?_
    refine lv_aload_n C.1 C.2.1 dL_law_310 rfl (lv_at hl 1 rfl) ?_
    refine lv_iload C.1 C.2.1 dL_law_311 (lv_at hl 5 rfl) ?_
    refine z_iconst C dL_law_313 ?_
    refine z_iadd C dL_law_314 ?_
    refine zd_ld C Z G q2 (x.toNat + 2) e2 (by omega) (by omega) dL_law_315 ?_
    refine zd_M (as := [.int (iZ (q1)), .int (iZ (q2))]) C Y G (c_X5_mono_bad1 l D cJ u v _ _ _ _ _ (q1) (q2) (by first | assumption | omega) (by first | assumption | omega) (by first | assumption | omega)) ml_L_179 rfl ⟨Nat.le_of_ble_eq_true rfl, Nat.le_of_ble_eq_true rfl⟩ ⟨by show cells + 1 + 0 ≤ 665281; omega, by show slots + 6 + 0 ≤ 7105636; omega⟩ hl (Nat.le_of_ble_eq_true rfl) rfl dL_law_316 (fun y9 H locs hy9 G => ?_)
    subst hy9
    refine lv_istore (lv' := [(6, _), (5, .int (iZ (1))), (0, .ref t), (1, .ref o), (2, .ref u), (3, .ref w), (4, .int (iZ (x)))]) C.1 C.2.1 dL_law_319 hl (by decide) rfl (fun ls hl => ?_)
    refine lv_goto (tgt := 2200) C.1 C.2.1 dL_law_321 (by decide) ?_
    exact kk _ _ _ _ _ _ _ _ _ _ _ _ G (by omega) (by omega) (lv_sub hl [2, 3, 4, 5, 6] rfl)
set_option maxHeartbeats 4000000 in
set_option maxRecDepth 100000 in
theorem lk_2 (hlq : l.stackTraces = false) (C : CallFix p m c0 cL_law 7 s args T0 RL) (Z : zLw D cB t N g s) (Y : zAd o a u v w s) {c : Nat → Nat} {ac re kn : Int32} {th : Int} {n : Int64} {sv : Value} {H : Heap} {locs : List Loc} {ls : Array Slot} {cells slots : Nat} (G : zG D cJ o a u v w c [.int ac, .int re, .int kn] c [.int (iZ th), .int ac, .int re, .int kn] n sv s H locs) (x : Int) (hx : 0 ≤ x ∧ x + 5 ≤ (N : Int)) (hf : cells + 150 ≤ 665281 ∧ slots + 75000 ≤ 7105636) (hl : lv_has ls 7 [(0, .ref t), (1, .ref o), (2, .ref u), (3, .ref w), (4, .int (iZ (x)))])
    (kk : zNx p l e s m args below meth c0 D cJ t o a u v w x cells slots Qw 2200) : W p l e room_1 s m args below meth c0 H locs cells slots Qw (F0 m 324 ls []) := by
  have hc := G.1.2.2.2
  obtain ⟨q1, e1⟩ : ∃ z, g (x.toNat + 1) = z := ⟨_, rfl⟩
  have r1 : -2147483648 ≤ q1 ∧ q1 ≤ 2147483647 := e1 ▸ Z.2.2.2.2.2.1 _
  obtain ⟨q2, e2⟩ : ∃ z, g (x.toNat + 2) = z := ⟨_, rfl⟩
  have r2 : -2147483648 ≤ q2 ∧ q2 ≤ 2147483647 := e2 ▸ Z.2.2.2.2.2.1 _
  obtain ⟨q3, e3⟩ : ∃ z, g (x.toNat + 3) = z := ⟨_, rfl⟩
  have r3 : -2147483648 ≤ q3 ∧ q3 ≤ 2147483647 := e3 ▸ Z.2.2.2.2.2.1 _
  by_cases hcel : (0 ≤ q1 ∧ q1 ≤ 5)
  · skip
    by_cases hrng : (0 ≤ q2 ∧ q2 ≤ 32)
    · skip
      refine lv_aload_n C.1 C.2.1 dL_law_324 rfl (lv_at hl 1 rfl) ?_
      refine lv_aload_n C.1 C.2.1 dL_law_325 rfl (lv_at hl 0 rfl) ?_
      refine lv_iload C.1 C.2.1 dL_law_326 (lv_at hl 4 rfl) ?_
      refine z_iconst C dL_law_328 ?_
      refine z_iadd C dL_law_329 ?_
      refine zd_ld C Z G q1 (x.toNat + 1) e1 (by omega) (by omega) dL_law_330 ?_
      refine lv_aload_n C.1 C.2.1 dL_law_331 rfl (lv_at hl 0 rfl) ?_
      refine lv_iload C.1 C.2.1 dL_law_332 (lv_at hl 4 rfl) ?_
      refine z_iconst C dL_law_334 ?_
      refine z_iadd C dL_law_335 ?_
      refine zd_ld C Z G q2 (x.toNat + 2) e2 (by omega) (by omega) dL_law_336 ?_
      refine lv_aload_n C.1 C.2.1 dL_law_337 rfl (lv_at hl 0 rfl) ?_
      refine lv_iload C.1 C.2.1 dL_law_338 (lv_at hl 4 rfl) ?_
      refine z_iconst C dL_law_340 ?_
      refine z_iadd C dL_law_341 ?_
      refine zd_ld C Z G q3 (x.toNat + 3) e3 (by omega) (by omega) dL_law_342 ?_
      refine zd_nz C (by omega) dL_law_343 dL_law_346 dL_law_347 dL_law_350 ?_
      refine lv_aload_n C.1 C.2.1 dL_law_351 rfl (lv_at hl 3 rfl) ?_
      refine zd_W (as := [.ref o, .int (iZ (q1)), .int (iZ (q2)), .int (iZ (zB (decide (q3 ≠ 0)))), .ref w]) C Z Y G (c_L_digit l D cJ o a _ _ _ _ (q1) (q2) (decide (q3 ≠ 0)) (by first | assumption | omega) (by first | assumption | omega) w _ _) ml_L_180 ⟨Nat.le_of_ble_eq_true rfl, Nat.le_of_ble_eq_true rfl⟩ ⟨by show cells + 0 + 0 ≤ 665281; omega, by show slots + 0 + 0 ≤ 7105636; omega⟩ hl (Nat.le_of_ble_eq_true rfl) rfl dL_law_352 (fun H locs G => ?_)
      refine lv_istore (lv' := [(5, .int (iZ (0))), (0, .ref t), (1, .ref o), (2, .ref u), (3, .ref w), (4, .int (iZ (x)))]) C.1 C.2.1 dL_law_355 hl (by decide) rfl (fun ls hl => ?_)
      refine lv_aload_n C.1 C.2.1 dL_law_357 rfl (lv_at hl 3 rfl) ?_
      refine lv_aload_n C.1 C.2.1 dL_law_358 rfl (lv_at hl 1 rfl) ?_
      refine lv_iload C.1 C.2.1 dL_law_359 (lv_at hl 5 rfl) ?_
      refine z_iconst C dL_law_361 ?_
      refine z_iadd C dL_law_362 ?_
      refine zd_ld C Z G q1 (x.toNat + 1) e1 (by omega) (by omega) dL_law_363 ?_
      refine lv_aload_n C.1 C.2.1 dL_law_364 rfl (lv_at hl 1 rfl) ?_
      refine lv_iload C.1 C.2.1 dL_law_365 (lv_at hl 5 rfl) ?_
      refine z_iconst C dL_law_367 ?_
      refine z_iadd C dL_law_368 ?_
      refine zd_ld C Z G q2 (x.toNat + 2) e2 (by omega) (by omega) dL_law_369 ?_
      refine lv_aload_n C.1 C.2.1 dL_law_370 rfl (lv_at hl 1 rfl) ?_
      refine lv_iload C.1 C.2.1 dL_law_371 (lv_at hl 5 rfl) ?_
      refine z_iconst C dL_law_373 ?_
      refine z_iadd C dL_law_374 ?_
      refine zd_ld C Z G q3 (x.toNat + 3) e3 (by omega) (by omega) dL_law_375 ?_
      refine zd_nz C (by omega) dL_law_376 dL_law_379 dL_law_380 dL_law_383 ?_
      refine zd_M (as := [.int (iZ (q1)), .int (iZ (q2)), .int (iZ (zB (decide (q3 ≠ 0))))]) C Y G (c_X5_digit l D cJ u v _ _ _ _ _ (q1) (q2) (decide (q3 ≠ 0)) (by first | assumption | omega) (by first | assumption | omega)) ml_L_183 rfl ⟨Nat.le_of_ble_eq_true rfl, Nat.le_of_ble_eq_true rfl⟩ ⟨by show cells + 0 + 0 ≤ 665281; omega, by show slots + 0 + 0 ≤ 7105636; omega⟩ hl (Nat.le_of_ble_eq_true rfl) rfl dL_law_384 (fun y9 H locs hy9 G => ?_)
      subst hy9
      refine lv_istore (lv' := [(6, _), (5, .int (iZ (0))), (0, .ref t), (1, .ref o), (2, .ref u), (3, .ref w), (4, .int (iZ (x)))]) C.1 C.2.1 dL_law_387 hl (by decide) rfl (fun ls hl => ?_)
      refine lv_goto (tgt := 2200) C.1 C.2.1 dL_law_389 (by decide) ?_
      rw [dg_eq (hc _) (by omega)] at G
      exact kk _ _ _ _ _ _ _ _ _ _ _ _ G (by omega) (by omega) (lv_sub hl [2, 3, 4, 5, 6] rfl)
    · skip
      refine lv_aload_n C.1 C.2.1 dL_law_324 rfl (lv_at hl 1 rfl) ?_
      refine lv_aload_n C.1 C.2.1 dL_law_325 rfl (lv_at hl 0 rfl) ?_
      refine lv_iload C.1 C.2.1 dL_law_326 (lv_at hl 4 rfl) ?_
      refine z_iconst C dL_law_328 ?_
      refine z_iadd C dL_law_329 ?_
      refine zd_ld C Z G q1 (x.toNat + 1) e1 (by omega) (by omega) dL_law_330 ?_
      refine lv_aload_n C.1 C.2.1 dL_law_331 rfl (lv_at hl 0 rfl) ?_
      refine lv_iload C.1 C.2.1 dL_law_332 (lv_at hl 4 rfl) ?_
      refine z_iconst C dL_law_334 ?_
      refine z_iadd C dL_law_335 ?_
      refine zd_ld C Z G q2 (x.toNat + 2) e2 (by omega) (by omega) dL_law_336 ?_
      refine lv_aload_n C.1 C.2.1 dL_law_337 rfl (lv_at hl 0 rfl) ?_
      refine lv_iload C.1 C.2.1 dL_law_338 (lv_at hl 4 rfl) ?_
      refine z_iconst C dL_law_340 ?_
      refine z_iadd C dL_law_341 ?_
      refine zd_ld C Z G q3 (x.toNat + 3) e3 (by omega) (by omega) dL_law_342 ?_
      refine zd_nz C (by omega) dL_law_343 dL_law_346 dL_law_347 dL_law_350 ?_
      refine lv_aload_n C.1 C.2.1 dL_law_351 rfl (lv_at hl 3 rfl) ?_
      refine zd_W (as := [.ref o, .int (iZ (q1)), .int (iZ (q2)), .int (iZ (zB (decide (q3 ≠ 0)))), .ref w]) C Z Y G (c_L_digit_badr l hlq D cJ o a _ _ _ _ (q1) (q2) (decide (q3 ≠ 0)) (by first | assumption | omega) (by first | assumption | omega) (by first | assumption | omega) (by first | assumption | omega) w _ _) ml_L_180 ⟨Nat.le_of_ble_eq_true rfl, Nat.le_of_ble_eq_true rfl⟩ ⟨by show cells + 0 + 1 ≤ 665281; omega, by show slots + 0 + 6 ≤ 7105636; omega⟩ hl (Nat.le_of_ble_eq_true rfl) rfl dL_law_352 (fun H locs G => ?_)
      refine lv_istore (lv' := [(5, .int (iZ (2))), (0, .ref t), (1, .ref o), (2, .ref u), (3, .ref w), (4, .int (iZ (x)))]) C.1 C.2.1 dL_law_355 hl (by decide) rfl (fun ls hl => ?_)
      refine lv_aload_n C.1 C.2.1 dL_law_357 rfl (lv_at hl 3 rfl) ?_
      refine lv_aload_n C.1 C.2.1 dL_law_358 rfl (lv_at hl 1 rfl) ?_
      refine lv_iload C.1 C.2.1 dL_law_359 (lv_at hl 5 rfl) ?_
      refine z_iconst C dL_law_361 ?_
      refine z_iadd C dL_law_362 ?_
      refine zd_ld C Z G q1 (x.toNat + 1) e1 (by omega) (by omega) dL_law_363 ?_
      refine lv_aload_n C.1 C.2.1 dL_law_364 rfl (lv_at hl 1 rfl) ?_
      refine lv_iload C.1 C.2.1 dL_law_365 (lv_at hl 5 rfl) ?_
      refine z_iconst C dL_law_367 ?_
      refine z_iadd C dL_law_368 ?_
      refine zd_ld C Z G q2 (x.toNat + 2) e2 (by omega) (by omega) dL_law_369 ?_
      refine lv_aload_n C.1 C.2.1 dL_law_370 rfl (lv_at hl 1 rfl) ?_
      refine lv_iload C.1 C.2.1 dL_law_371 (lv_at hl 5 rfl) ?_
      refine z_iconst C dL_law_373 ?_
      refine z_iadd C dL_law_374 ?_
      refine zd_ld C Z G q3 (x.toNat + 3) e3 (by omega) (by omega) dL_law_375 ?_
      refine zd_nz C (by omega) dL_law_376 dL_law_379 dL_law_380 dL_law_383 ?_
      refine zd_M (as := [.int (iZ (q1)), .int (iZ (q2)), .int (iZ (zB (decide (q3 ≠ 0))))]) C Y G (c_X5_digit_bad2 l D cJ u v _ _ _ _ _ (q1) (q2) (decide (q3 ≠ 0)) (by first | assumption | omega) (by first | assumption | omega) (by first | assumption | omega) (by first | assumption | omega)) ml_L_183 rfl ⟨Nat.le_of_ble_eq_true rfl, Nat.le_of_ble_eq_true rfl⟩ ⟨by show cells + 1 + 0 ≤ 665281; omega, by show slots + 6 + 0 ≤ 7105636; omega⟩ hl (Nat.le_of_ble_eq_true rfl) rfl dL_law_384 (fun y9 H locs hy9 G => ?_)
      subst hy9
      refine lv_istore (lv' := [(6, _), (5, .int (iZ (2))), (0, .ref t), (1, .ref o), (2, .ref u), (3, .ref w), (4, .int (iZ (x)))]) C.1 C.2.1 dL_law_387 hl (by decide) rfl (fun ls hl => ?_)
      refine lv_goto (tgt := 2200) C.1 C.2.1 dL_law_389 (by decide) ?_
      exact kk _ _ _ _ _ _ _ _ _ _ _ _ G (by omega) (by omega) (lv_sub hl [2, 3, 4, 5, 6] rfl)
  · skip
    refine lv_aload_n C.1 C.2.1 dL_law_324 rfl (lv_at hl 1 rfl) ?_
    refine lv_aload_n C.1 C.2.1 dL_law_325 rfl (lv_at hl 0 rfl) ?_
    refine lv_iload C.1 C.2.1 dL_law_326 (lv_at hl 4 rfl) ?_
    refine z_iconst C dL_law_328 ?_
    refine z_iadd C dL_law_329 ?_
    refine zd_ld C Z G q1 (x.toNat + 1) e1 (by omega) (by omega) dL_law_330 ?_
    refine lv_aload_n C.1 C.2.1 dL_law_331 rfl (lv_at hl 0 rfl) ?_
    refine lv_iload C.1 C.2.1 dL_law_332 (lv_at hl 4 rfl) ?_
    refine z_iconst C dL_law_334 ?_
    refine z_iadd C dL_law_335 ?_
    refine zd_ld C Z G q2 (x.toNat + 2) e2 (by omega) (by omega) dL_law_336 ?_
    refine lv_aload_n C.1 C.2.1 dL_law_337 rfl (lv_at hl 0 rfl) ?_
    refine lv_iload C.1 C.2.1 dL_law_338 (lv_at hl 4 rfl) ?_
    refine z_iconst C dL_law_340 ?_
    refine z_iadd C dL_law_341 ?_
    refine zd_ld C Z G q3 (x.toNat + 3) e3 (by omega) (by omega) dL_law_342 ?_
    refine zd_nz C (by omega) dL_law_343 dL_law_346 dL_law_347 dL_law_350 ?_
    refine lv_aload_n C.1 C.2.1 dL_law_351 rfl (lv_at hl 3 rfl) ?_
    refine zd_W (as := [.ref o, .int (iZ (q1)), .int (iZ (q2)), .int (iZ (zB (decide (q3 ≠ 0)))), .ref w]) C Z Y G (c_L_digit_badc l hlq D cJ o a _ _ _ _ (q1) (q2) (decide (q3 ≠ 0)) (by first | assumption | omega) (by first | assumption | omega) (by first | assumption | omega) w _ _) ml_L_180 ⟨Nat.le_of_ble_eq_true rfl, Nat.le_of_ble_eq_true rfl⟩ ⟨by show cells + 0 + 1 ≤ 665281; omega, by show slots + 0 + 6 ≤ 7105636; omega⟩ hl (Nat.le_of_ble_eq_true rfl) rfl dL_law_352 (fun H locs G => ?_)
    refine lv_istore (lv' := [(5, .int (iZ (1))), (0, .ref t), (1, .ref o), (2, .ref u), (3, .ref w), (4, .int (iZ (x)))]) C.1 C.2.1 dL_law_355 hl (by decide) rfl (fun ls hl => ?_)
    refine lv_aload_n C.1 C.2.1 dL_law_357 rfl (lv_at hl 3 rfl) ?_
    refine lv_aload_n C.1 C.2.1 dL_law_358 rfl (lv_at hl 1 rfl) ?_
    refine lv_iload C.1 C.2.1 dL_law_359 (lv_at hl 5 rfl) ?_
    refine z_iconst C dL_law_361 ?_
    refine z_iadd C dL_law_362 ?_
    refine zd_ld C Z G q1 (x.toNat + 1) e1 (by omega) (by omega) dL_law_363 ?_
    refine lv_aload_n C.1 C.2.1 dL_law_364 rfl (lv_at hl 1 rfl) ?_
    refine lv_iload C.1 C.2.1 dL_law_365 (lv_at hl 5 rfl) ?_
    refine z_iconst C dL_law_367 ?_
    refine z_iadd C dL_law_368 ?_
    refine zd_ld C Z G q2 (x.toNat + 2) e2 (by omega) (by omega) dL_law_369 ?_
    refine lv_aload_n C.1 C.2.1 dL_law_370 rfl (lv_at hl 1 rfl) ?_
    refine lv_iload C.1 C.2.1 dL_law_371 (lv_at hl 5 rfl) ?_
    refine z_iconst C dL_law_373 ?_
    refine z_iadd C dL_law_374 ?_
    refine zd_ld C Z G q3 (x.toNat + 3) e3 (by omega) (by omega) dL_law_375 ?_
    refine zd_nz C (by omega) dL_law_376 dL_law_379 dL_law_380 dL_law_383 ?_
    refine zd_M (as := [.int (iZ (q1)), .int (iZ (q2)), .int (iZ (zB (decide (q3 ≠ 0))))]) C Y G (c_X5_digit_bad1 l D cJ u v _ _ _ _ _ (q1) (q2) (decide (q3 ≠ 0)) (by first | assumption | omega) (by first | assumption | omega) (by first | assumption | omega)) ml_L_183 rfl ⟨Nat.le_of_ble_eq_true rfl, Nat.le_of_ble_eq_true rfl⟩ ⟨by show cells + 1 + 0 ≤ 665281; omega, by show slots + 6 + 0 ≤ 7105636; omega⟩ hl (Nat.le_of_ble_eq_true rfl) rfl dL_law_384 (fun y9 H locs hy9 G => ?_)
    subst hy9
    refine lv_istore (lv' := [(6, _), (5, .int (iZ (1))), (0, .ref t), (1, .ref o), (2, .ref u), (3, .ref w), (4, .int (iZ (x)))]) C.1 C.2.1 dL_law_387 hl (by decide) rfl (fun ls hl => ?_)
    refine lv_goto (tgt := 2200) C.1 C.2.1 dL_law_389 (by decide) ?_
    exact kk _ _ _ _ _ _ _ _ _ _ _ _ G (by omega) (by omega) (lv_sub hl [2, 3, 4, 5, 6] rfl)
set_option maxHeartbeats 4000000 in
set_option maxRecDepth 100000 in
theorem lk_3 (hlq : l.stackTraces = false) (C : CallFix p m c0 cL_law 7 s args T0 RL) (Z : zLw D cB t N g s) (Y : zAd o a u v w s) {c : Nat → Nat} {ac re kn : Int32} {th : Int} {n : Int64} {sv : Value} {H : Heap} {locs : List Loc} {ls : Array Slot} {cells slots : Nat} (G : zG D cJ o a u v w c [.int ac, .int re, .int kn] c [.int (iZ th), .int ac, .int re, .int kn] n sv s H locs) (x : Int) (hx : 0 ≤ x ∧ x + 5 ≤ (N : Int)) (hf : cells + 150 ≤ 665281 ∧ slots + 75000 ≤ 7105636) (hl : lv_has ls 7 [(0, .ref t), (1, .ref o), (2, .ref u), (3, .ref w), (4, .int (iZ (x)))])
    (kk : zNx p l e s m args below meth c0 D cJ t o a u v w x cells slots Qw 2200) : W p l e room_1 s m args below meth c0 H locs cells slots Qw (F0 m 392 ls []) := by
  have hc := G.1.2.2.2
  obtain ⟨q1, e1⟩ : ∃ z, g (x.toNat + 1) = z := ⟨_, rfl⟩
  have r1 : -2147483648 ≤ q1 ∧ q1 ≤ 2147483647 := e1 ▸ Z.2.2.2.2.2.1 _
  obtain ⟨q2, e2⟩ : ∃ z, g (x.toNat + 2) = z := ⟨_, rfl⟩
  have r2 : -2147483648 ≤ q2 ∧ q2 ≤ 2147483647 := e2 ▸ Z.2.2.2.2.2.1 _
  by_cases hcel : (0 ≤ q1 ∧ q1 ≤ 5)
  · skip
    by_cases hrng : (0 ≤ q2 ∧ q2 ≤ 32)
    · skip
      refine lv_aload_n C.1 C.2.1 dL_law_392 rfl (lv_at hl 1 rfl) ?_
      refine lv_aload_n C.1 C.2.1 dL_law_393 rfl (lv_at hl 0 rfl) ?_
      refine lv_iload C.1 C.2.1 dL_law_394 (lv_at hl 4 rfl) ?_
      refine z_iconst C dL_law_396 ?_
      refine z_iadd C dL_law_397 ?_
      refine zd_ld C Z G q1 (x.toNat + 1) e1 (by omega) (by omega) dL_law_398 ?_
      refine lv_aload_n C.1 C.2.1 dL_law_399 rfl (lv_at hl 0 rfl) ?_
      refine lv_iload C.1 C.2.1 dL_law_400 (lv_at hl 4 rfl) ?_
      refine z_iconst C dL_law_402 ?_
      refine z_iadd C dL_law_403 ?_
      refine zd_ld C Z G q2 (x.toNat + 2) e2 (by omega) (by omega) dL_law_404 ?_
      refine lv_aload_n C.1 C.2.1 dL_law_405 rfl (lv_at hl 3 rfl) ?_
      refine zd_W (as := [.ref o, .int (iZ (q1)), .int (iZ (q2)), .ref w]) C Z Y G (c_L_flip l D cJ o a _ _ _ _ (q1) (q2) (by first | assumption | omega) (by first | assumption | omega) w _ _) ml_L_184 ⟨Nat.le_of_ble_eq_true rfl, Nat.le_of_ble_eq_true rfl⟩ ⟨by show cells + 0 + 0 ≤ 665281; omega, by show slots + 0 + 0 ≤ 7105636; omega⟩ hl (Nat.le_of_ble_eq_true rfl) rfl dL_law_406 (fun H locs G => ?_)
      refine lv_istore (lv' := [(5, .int (iZ (0))), (0, .ref t), (1, .ref o), (2, .ref u), (3, .ref w), (4, .int (iZ (x)))]) C.1 C.2.1 dL_law_409 hl (by decide) rfl (fun ls hl => ?_)
      refine lv_aload_n C.1 C.2.1 dL_law_411 rfl (lv_at hl 3 rfl) ?_
      refine lv_aload_n C.1 C.2.1 dL_law_412 rfl (lv_at hl 1 rfl) ?_
      refine lv_iload C.1 C.2.1 dL_law_413 (lv_at hl 5 rfl) ?_
      refine z_iconst C dL_law_415 ?_
      refine z_iadd C dL_law_416 ?_
      refine zd_ld C Z G q1 (x.toNat + 1) e1 (by omega) (by omega) dL_law_417 ?_
      refine lv_aload_n C.1 C.2.1 dL_law_418 rfl (lv_at hl 1 rfl) ?_
      refine lv_iload C.1 C.2.1 dL_law_419 (lv_at hl 5 rfl) ?_
      refine z_iconst C dL_law_421 ?_
      refine z_iadd C dL_law_422 ?_
      refine zd_ld C Z G q2 (x.toNat + 2) e2 (by omega) (by omega) dL_law_423 ?_
      refine zd_M (as := [.int (iZ (q1)), .int (iZ (q2))]) C Y G (c_X5_flip l D cJ u v _ _ _ _ _ (q1) (q2) (by first | assumption | omega) (by first | assumption | omega)) ml_L_186 rfl ⟨Nat.le_of_ble_eq_true rfl, Nat.le_of_ble_eq_true rfl⟩ ⟨by show cells + 0 + 0 ≤ 665281; omega, by show slots + 0 + 0 ≤ 7105636; omega⟩ hl (Nat.le_of_ble_eq_true rfl) rfl dL_law_424 (fun y9 H locs hy9 G => ?_)
      subst hy9
      refine lv_istore (lv' := [(6, _), (5, .int (iZ (0))), (0, .ref t), (1, .ref o), (2, .ref u), (3, .ref w), (4, .int (iZ (x)))]) C.1 C.2.1 dL_law_427 hl (by decide) rfl (fun ls hl => ?_)
      refine lv_goto (tgt := 2200) C.1 C.2.1 dL_law_429 (by decide) ?_
      exact kk _ _ _ _ _ _ _ _ _ _ _ _ G (by omega) (by omega) (lv_sub hl [2, 3, 4, 5, 6] rfl)
    · skip
      refine lv_aload_n C.1 C.2.1 dL_law_392 rfl (lv_at hl 1 rfl) ?_
      refine lv_aload_n C.1 C.2.1 dL_law_393 rfl (lv_at hl 0 rfl) ?_
      refine lv_iload C.1 C.2.1 dL_law_394 (lv_at hl 4 rfl) ?_
      refine z_iconst C dL_law_396 ?_
      refine z_iadd C dL_law_397 ?_
      refine zd_ld C Z G q1 (x.toNat + 1) e1 (by omega) (by omega) dL_law_398 ?_
      refine lv_aload_n C.1 C.2.1 dL_law_399 rfl (lv_at hl 0 rfl) ?_
      refine lv_iload C.1 C.2.1 dL_law_400 (lv_at hl 4 rfl) ?_
      refine z_iconst C dL_law_402 ?_
      refine z_iadd C dL_law_403 ?_
      refine zd_ld C Z G q2 (x.toNat + 2) e2 (by omega) (by omega) dL_law_404 ?_
      refine lv_aload_n C.1 C.2.1 dL_law_405 rfl (lv_at hl 3 rfl) ?_
      refine zd_W (as := [.ref o, .int (iZ (q1)), .int (iZ (q2)), .ref w]) C Z Y G (c_L_flip_badr l hlq D cJ o a _ _ _ _ (q1) (q2) (by first | assumption | omega) (by first | assumption | omega) (by first | assumption | omega) (by first | assumption | omega) w _ _) ml_L_184 ⟨Nat.le_of_ble_eq_true rfl, Nat.le_of_ble_eq_true rfl⟩ ⟨by show cells + 0 + 1 ≤ 665281; omega, by show slots + 0 + 6 ≤ 7105636; omega⟩ hl (Nat.le_of_ble_eq_true rfl) rfl dL_law_406 (fun H locs G => ?_)
      refine lv_istore (lv' := [(5, .int (iZ (2))), (0, .ref t), (1, .ref o), (2, .ref u), (3, .ref w), (4, .int (iZ (x)))]) C.1 C.2.1 dL_law_409 hl (by decide) rfl (fun ls hl => ?_)
      refine lv_aload_n C.1 C.2.1 dL_law_411 rfl (lv_at hl 3 rfl) ?_
      refine lv_aload_n C.1 C.2.1 dL_law_412 rfl (lv_at hl 1 rfl) ?_
      refine lv_iload C.1 C.2.1 dL_law_413 (lv_at hl 5 rfl) ?_
      refine z_iconst C dL_law_415 ?_
      refine z_iadd C dL_law_416 ?_
      refine zd_ld C Z G q1 (x.toNat + 1) e1 (by omega) (by omega) dL_law_417 ?_
      refine lv_aload_n C.1 C.2.1 dL_law_418 rfl (lv_at hl 1 rfl) ?_
      refine lv_iload C.1 C.2.1 dL_law_419 (lv_at hl 5 rfl) ?_
      refine z_iconst C dL_law_421 ?_
      refine z_iadd C dL_law_422 ?_
      refine zd_ld C Z G q2 (x.toNat + 2) e2 (by omega) (by omega) dL_law_423 ?_
      refine zd_M (as := [.int (iZ (q1)), .int (iZ (q2))]) C Y G (c_X5_flip_bad2 l D cJ u v _ _ _ _ _ (q1) (q2) (by first | assumption | omega) (by first | assumption | omega) (by first | assumption | omega) (by first | assumption | omega)) ml_L_186 rfl ⟨Nat.le_of_ble_eq_true rfl, Nat.le_of_ble_eq_true rfl⟩ ⟨by show cells + 1 + 0 ≤ 665281; omega, by show slots + 6 + 0 ≤ 7105636; omega⟩ hl (Nat.le_of_ble_eq_true rfl) rfl dL_law_424 (fun y9 H locs hy9 G => ?_)
      subst hy9
      refine lv_istore (lv' := [(6, _), (5, .int (iZ (2))), (0, .ref t), (1, .ref o), (2, .ref u), (3, .ref w), (4, .int (iZ (x)))]) C.1 C.2.1 dL_law_427 hl (by decide) rfl (fun ls hl => ?_)
      refine lv_goto (tgt := 2200) C.1 C.2.1 dL_law_429 (by decide) ?_
      exact kk _ _ _ _ _ _ _ _ _ _ _ _ G (by omega) (by omega) (lv_sub hl [2, 3, 4, 5, 6] rfl)
  · skip
    refine lv_aload_n C.1 C.2.1 dL_law_392 rfl (lv_at hl 1 rfl) ?_
    refine lv_aload_n C.1 C.2.1 dL_law_393 rfl (lv_at hl 0 rfl) ?_
    refine lv_iload C.1 C.2.1 dL_law_394 (lv_at hl 4 rfl) ?_
    refine z_iconst C dL_law_396 ?_
    refine z_iadd C dL_law_397 ?_
    refine zd_ld C Z G q1 (x.toNat + 1) e1 (by omega) (by omega) dL_law_398 ?_
    refine lv_aload_n C.1 C.2.1 dL_law_399 rfl (lv_at hl 0 rfl) ?_
    refine lv_iload C.1 C.2.1 dL_law_400 (lv_at hl 4 rfl) ?_
    refine z_iconst C dL_law_402 ?_
    refine z_iadd C dL_law_403 ?_
    refine zd_ld C Z G q2 (x.toNat + 2) e2 (by omega) (by omega) dL_law_404 ?_
    refine lv_aload_n C.1 C.2.1 dL_law_405 rfl (lv_at hl 3 rfl) ?_
    refine zd_W (as := [.ref o, .int (iZ (q1)), .int (iZ (q2)), .ref w]) C Z Y G (c_L_flip_badc l hlq D cJ o a _ _ _ _ (q1) (q2) (by first | assumption | omega) (by first | assumption | omega) (by first | assumption | omega) w _ _) ml_L_184 ⟨Nat.le_of_ble_eq_true rfl, Nat.le_of_ble_eq_true rfl⟩ ⟨by show cells + 0 + 1 ≤ 665281; omega, by show slots + 0 + 6 ≤ 7105636; omega⟩ hl (Nat.le_of_ble_eq_true rfl) rfl dL_law_406 (fun H locs G => ?_)
    refine lv_istore (lv' := [(5, .int (iZ (1))), (0, .ref t), (1, .ref o), (2, .ref u), (3, .ref w), (4, .int (iZ (x)))]) C.1 C.2.1 dL_law_409 hl (by decide) rfl (fun ls hl => ?_)
    refine lv_aload_n C.1 C.2.1 dL_law_411 rfl (lv_at hl 3 rfl) ?_
    refine lv_aload_n C.1 C.2.1 dL_law_412 rfl (lv_at hl 1 rfl) ?_
    refine lv_iload C.1 C.2.1 dL_law_413 (lv_at hl 5 rfl) ?_
    refine z_iconst C dL_law_415 ?_
    refine z_iadd C dL_law_416 ?_
    refine zd_ld C Z G q1 (x.toNat + 1) e1 (by omega) (by omega) dL_law_417 ?_
    refine lv_aload_n C.1 C.2.1 dL_law_418 rfl (lv_at hl 1 rfl) ?_
    refine lv_iload C.1 C.2.1 dL_law_419 (lv_at hl 5 rfl) ?_
    refine z_iconst C dL_law_421 ?_
    refine z_iadd C dL_law_422 ?_
    refine zd_ld C Z G q2 (x.toNat + 2) e2 (by omega) (by omega) dL_law_423 ?_
    refine zd_M (as := [.int (iZ (q1)), .int (iZ (q2))]) C Y G (c_X5_flip_bad1 l D cJ u v _ _ _ _ _ (q1) (q2) (by first | assumption | omega) (by first | assumption | omega) (by first | assumption | omega)) ml_L_186 rfl ⟨Nat.le_of_ble_eq_true rfl, Nat.le_of_ble_eq_true rfl⟩ ⟨by show cells + 1 + 0 ≤ 665281; omega, by show slots + 6 + 0 ≤ 7105636; omega⟩ hl (Nat.le_of_ble_eq_true rfl) rfl dL_law_424 (fun y9 H locs hy9 G => ?_)
    subst hy9
    refine lv_istore (lv' := [(6, _), (5, .int (iZ (1))), (0, .ref t), (1, .ref o), (2, .ref u), (3, .ref w), (4, .int (iZ (x)))]) C.1 C.2.1 dL_law_427 hl (by decide) rfl (fun ls hl => ?_)
    refine lv_goto (tgt := 2200) C.1 C.2.1 dL_law_429 (by decide) ?_
    exact kk _ _ _ _ _ _ _ _ _ _ _ _ G (by omega) (by omega) (lv_sub hl [2, 3, 4, 5, 6] rfl)
set_option maxHeartbeats 4000000 in
set_option maxRecDepth 100000 in
theorem lk_4 (hlq : l.stackTraces = false) (C : CallFix p m c0 cL_law 7 s args T0 RL) (Z : zLw D cB t N g s) (Y : zAd o a u v w s) {c : Nat → Nat} {ac re kn : Int32} {th : Int} {n : Int64} {sv : Value} {H : Heap} {locs : List Loc} {ls : Array Slot} {cells slots : Nat} (G : zG D cJ o a u v w c [.int ac, .int re, .int kn] c [.int (iZ th), .int ac, .int re, .int kn] n sv s H locs) (x : Int) (hx : 0 ≤ x ∧ x + 5 ≤ (N : Int)) (hf : cells + 150 ≤ 665281 ∧ slots + 75000 ≤ 7105636) (hl : lv_has ls 7 [(0, .ref t), (1, .ref o), (2, .ref u), (3, .ref w), (4, .int (iZ (x)))])
    (kk : zNx p l e s m args below meth c0 D cJ t o a u v w x cells slots Qw 2200) : W p l e room_1 s m args below meth c0 H locs cells slots Qw (F0 m 432 ls []) := by
  have hc := G.1.2.2.2
  obtain ⟨q1, e1⟩ : ∃ z, g (x.toNat + 1) = z := ⟨_, rfl⟩
  have r1 : -2147483648 ≤ q1 ∧ q1 ≤ 2147483647 := e1 ▸ Z.2.2.2.2.2.1 _
  obtain ⟨q2, e2⟩ : ∃ z, g (x.toNat + 2) = z := ⟨_, rfl⟩
  have r2 : -2147483648 ≤ q2 ∧ q2 ≤ 2147483647 := e2 ▸ Z.2.2.2.2.2.1 _
  by_cases hcel : (0 ≤ q1 ∧ q1 ≤ 5) ∧ (0 ≤ q2 ∧ q2 ≤ 5)
  · skip
    refine lv_aload_n C.1 C.2.1 dL_law_432 rfl (lv_at hl 1 rfl) ?_
    refine lv_aload_n C.1 C.2.1 dL_law_433 rfl (lv_at hl 0 rfl) ?_
    refine lv_iload C.1 C.2.1 dL_law_434 (lv_at hl 4 rfl) ?_
    refine z_iconst C dL_law_436 ?_
    refine z_iadd C dL_law_437 ?_
    refine zd_ld C Z G q1 (x.toNat + 1) e1 (by omega) (by omega) dL_law_438 ?_
    refine lv_aload_n C.1 C.2.1 dL_law_439 rfl (lv_at hl 0 rfl) ?_
    refine lv_iload C.1 C.2.1 dL_law_440 (lv_at hl 4 rfl) ?_
    refine z_iconst C dL_law_442 ?_
    refine z_iadd C dL_law_443 ?_
    refine zd_ld C Z G q2 (x.toNat + 2) e2 (by omega) (by omega) dL_law_444 ?_
    refine lv_aload_n C.1 C.2.1 dL_law_445 rfl (lv_at hl 3 rfl) ?_
    refine zd_W (as := [.ref o, .int (iZ (q1)), .int (iZ (q2)), .ref w]) C Z Y G (c_L_copy l D cJ o a _ _ _ _ (q1) (q2) (by first | assumption | omega) (by first | assumption | omega) w _ _) ml_L_187 ⟨Nat.le_of_ble_eq_true rfl, Nat.le_of_ble_eq_true rfl⟩ ⟨by show cells + 0 + 0 ≤ 665281; omega, by show slots + 0 + 0 ≤ 7105636; omega⟩ hl (Nat.le_of_ble_eq_true rfl) rfl dL_law_446 (fun H locs G => ?_)
    refine lv_istore (lv' := [(5, .int (iZ (0))), (0, .ref t), (1, .ref o), (2, .ref u), (3, .ref w), (4, .int (iZ (x)))]) C.1 C.2.1 dL_law_449 hl (by decide) rfl (fun ls hl => ?_)
    refine lv_aload_n C.1 C.2.1 dL_law_451 rfl (lv_at hl 3 rfl) ?_
    refine lv_aload_n C.1 C.2.1 dL_law_452 rfl (lv_at hl 1 rfl) ?_
    refine lv_iload C.1 C.2.1 dL_law_453 (lv_at hl 5 rfl) ?_
    refine z_iconst C dL_law_455 ?_
    refine z_iadd C dL_law_456 ?_
    refine zd_ld C Z G q1 (x.toNat + 1) e1 (by omega) (by omega) dL_law_457 ?_
    refine lv_aload_n C.1 C.2.1 dL_law_458 rfl (lv_at hl 1 rfl) ?_
    refine lv_iload C.1 C.2.1 dL_law_459 (lv_at hl 5 rfl) ?_
    refine z_iconst C dL_law_461 ?_
    refine z_iadd C dL_law_462 ?_
    refine zd_ld C Z G q2 (x.toNat + 2) e2 (by omega) (by omega) dL_law_463 ?_
    refine zd_M (as := [.int (iZ (q1)), .int (iZ (q2))]) C Y G (c_X5_copy l D cJ u v _ _ _ _ _ (q1) (q2) (by first | assumption | omega) (by first | assumption | omega)) ml_L_189 rfl ⟨Nat.le_of_ble_eq_true rfl, Nat.le_of_ble_eq_true rfl⟩ ⟨by show cells + 0 + 0 ≤ 665281; omega, by show slots + 0 + 0 ≤ 7105636; omega⟩ hl (Nat.le_of_ble_eq_true rfl) rfl dL_law_464 (fun y9 H locs hy9 G => ?_)
    subst hy9
    refine lv_istore (lv' := [(6, _), (5, .int (iZ (0))), (0, .ref t), (1, .ref o), (2, .ref u), (3, .ref w), (4, .int (iZ (x)))]) C.1 C.2.1 dL_law_467 hl (by decide) rfl (fun ls hl => ?_)
    refine lv_goto (tgt := 2200) C.1 C.2.1 dL_law_469 (by decide) ?_
    exact kk _ _ _ _ _ _ _ _ _ _ _ _ G (by omega) (by omega) (lv_sub hl [2, 3, 4, 5, 6] rfl)
  · skip
    refine lv_aload_n C.1 C.2.1 dL_law_432 rfl (lv_at hl 1 rfl) ?_
    refine lv_aload_n C.1 C.2.1 dL_law_433 rfl (lv_at hl 0 rfl) ?_
    refine lv_iload C.1 C.2.1 dL_law_434 (lv_at hl 4 rfl) ?_
    refine z_iconst C dL_law_436 ?_
    refine z_iadd C dL_law_437 ?_
    refine zd_ld C Z G q1 (x.toNat + 1) e1 (by omega) (by omega) dL_law_438 ?_
    refine lv_aload_n C.1 C.2.1 dL_law_439 rfl (lv_at hl 0 rfl) ?_
    refine lv_iload C.1 C.2.1 dL_law_440 (lv_at hl 4 rfl) ?_
    refine z_iconst C dL_law_442 ?_
    refine z_iadd C dL_law_443 ?_
    refine zd_ld C Z G q2 (x.toNat + 2) e2 (by omega) (by omega) dL_law_444 ?_
    refine lv_aload_n C.1 C.2.1 dL_law_445 rfl (lv_at hl 3 rfl) ?_
    refine zd_W (as := [.ref o, .int (iZ (q1)), .int (iZ (q2)), .ref w]) C Z Y G (c_L_copy_badc l hlq D cJ o a _ _ _ _ (q1) (q2) (by first | assumption | omega) (by first | assumption | omega) (by first | assumption | omega) w _ _) ml_L_187 ⟨Nat.le_of_ble_eq_true rfl, Nat.le_of_ble_eq_true rfl⟩ ⟨by show cells + 0 + 1 ≤ 665281; omega, by show slots + 0 + 6 ≤ 7105636; omega⟩ hl (Nat.le_of_ble_eq_true rfl) rfl dL_law_446 (fun H locs G => ?_)
    refine lv_istore (lv' := [(5, .int (iZ (1))), (0, .ref t), (1, .ref o), (2, .ref u), (3, .ref w), (4, .int (iZ (x)))]) C.1 C.2.1 dL_law_449 hl (by decide) rfl (fun ls hl => ?_)
    refine lv_aload_n C.1 C.2.1 dL_law_451 rfl (lv_at hl 3 rfl) ?_
    refine lv_aload_n C.1 C.2.1 dL_law_452 rfl (lv_at hl 1 rfl) ?_
    refine lv_iload C.1 C.2.1 dL_law_453 (lv_at hl 5 rfl) ?_
    refine z_iconst C dL_law_455 ?_
    refine z_iadd C dL_law_456 ?_
    refine zd_ld C Z G q1 (x.toNat + 1) e1 (by omega) (by omega) dL_law_457 ?_
    refine lv_aload_n C.1 C.2.1 dL_law_458 rfl (lv_at hl 1 rfl) ?_
    refine lv_iload C.1 C.2.1 dL_law_459 (lv_at hl 5 rfl) ?_
    refine z_iconst C dL_law_461 ?_
    refine z_iadd C dL_law_462 ?_
    refine zd_ld C Z G q2 (x.toNat + 2) e2 (by omega) (by omega) dL_law_463 ?_
    refine zd_M (as := [.int (iZ (q1)), .int (iZ (q2))]) C Y G (c_X5_copy_bad1 l D cJ u v _ _ _ _ _ (q1) (q2) (by first | assumption | omega) (by first | assumption | omega) (by first | assumption | omega)) ml_L_189 rfl ⟨Nat.le_of_ble_eq_true rfl, Nat.le_of_ble_eq_true rfl⟩ ⟨by show cells + 1 + 0 ≤ 665281; omega, by show slots + 6 + 0 ≤ 7105636; omega⟩ hl (Nat.le_of_ble_eq_true rfl) rfl dL_law_464 (fun y9 H locs hy9 G => ?_)
    subst hy9
    refine lv_istore (lv' := [(6, _), (5, .int (iZ (1))), (0, .ref t), (1, .ref o), (2, .ref u), (3, .ref w), (4, .int (iZ (x)))]) C.1 C.2.1 dL_law_467 hl (by decide) rfl (fun ls hl => ?_)
    refine lv_goto (tgt := 2200) C.1 C.2.1 dL_law_469 (by decide) ?_
    exact kk _ _ _ _ _ _ _ _ _ _ _ _ G (by omega) (by omega) (lv_sub hl [2, 3, 4, 5, 6] rfl)
set_option maxHeartbeats 4000000 in
set_option maxRecDepth 100000 in
theorem lk_5 (hlq : l.stackTraces = false) (C : CallFix p m c0 cL_law 7 s args T0 RL) (Z : zLw D cB t N g s) (Y : zAd o a u v w s) {c : Nat → Nat} {ac re kn : Int32} {th : Int} {n : Int64} {sv : Value} {H : Heap} {locs : List Loc} {ls : Array Slot} {cells slots : Nat} (G : zG D cJ o a u v w c [.int ac, .int re, .int kn] c [.int (iZ th), .int ac, .int re, .int kn] n sv s H locs) (x : Int) (hx : 0 ≤ x ∧ x + 5 ≤ (N : Int)) (hf : cells + 150 ≤ 665281 ∧ slots + 75000 ≤ 7105636) (hl : lv_has ls 7 [(0, .ref t), (1, .ref o), (2, .ref u), (3, .ref w), (4, .int (iZ (x)))])
    (kk : zNx p l e s m args below meth c0 D cJ t o a u v w x cells slots Qw 2200) : W p l e room_1 s m args below meth c0 H locs cells slots Qw (F0 m 472 ls []) := by
  have hc := G.1.2.2.2
  obtain ⟨q1, e1⟩ : ∃ z, g (x.toNat + 1) = z := ⟨_, rfl⟩
  have r1 : -2147483648 ≤ q1 ∧ q1 ≤ 2147483647 := e1 ▸ Z.2.2.2.2.2.1 _
  obtain ⟨q2, e2⟩ : ∃ z, g (x.toNat + 2) = z := ⟨_, rfl⟩
  have r2 : -2147483648 ≤ q2 ∧ q2 ≤ 2147483647 := e2 ▸ Z.2.2.2.2.2.1 _
  by_cases hcel : (0 ≤ q1 ∧ q1 ≤ 5) ∧ (0 ≤ q2 ∧ q2 ≤ 5)
  · skip
    refine lv_aload_n C.1 C.2.1 dL_law_472 rfl (lv_at hl 1 rfl) ?_
    refine lv_aload_n C.1 C.2.1 dL_law_473 rfl (lv_at hl 0 rfl) ?_
    refine lv_iload C.1 C.2.1 dL_law_474 (lv_at hl 4 rfl) ?_
    refine z_iconst C dL_law_476 ?_
    refine z_iadd C dL_law_477 ?_
    refine zd_ld C Z G q1 (x.toNat + 1) e1 (by omega) (by omega) dL_law_478 ?_
    refine lv_aload_n C.1 C.2.1 dL_law_479 rfl (lv_at hl 0 rfl) ?_
    refine lv_iload C.1 C.2.1 dL_law_480 (lv_at hl 4 rfl) ?_
    refine z_iconst C dL_law_482 ?_
    refine z_iadd C dL_law_483 ?_
    refine zd_ld C Z G q2 (x.toNat + 2) e2 (by omega) (by omega) dL_law_484 ?_
    refine lv_aload_n C.1 C.2.1 dL_law_485 rfl (lv_at hl 3 rfl) ?_
    refine zd_W (as := [.ref o, .int (iZ (q1)), .int (iZ (q2)), .ref w]) C Z Y G (c_L_swap l D cJ o a _ _ _ _ (q1) (q2) (by first | assumption | omega) (by first | assumption | omega) w _ _) ml_L_190 ⟨Nat.le_of_ble_eq_true rfl, Nat.le_of_ble_eq_true rfl⟩ ⟨by show cells + 0 + 0 ≤ 665281; omega, by show slots + 0 + 0 ≤ 7105636; omega⟩ hl (Nat.le_of_ble_eq_true rfl) rfl dL_law_486 (fun H locs G => ?_)
    refine lv_istore (lv' := [(5, .int (iZ (0))), (0, .ref t), (1, .ref o), (2, .ref u), (3, .ref w), (4, .int (iZ (x)))]) C.1 C.2.1 dL_law_489 hl (by decide) rfl (fun ls hl => ?_)
    refine lv_aload_n C.1 C.2.1 dL_law_491 rfl (lv_at hl 3 rfl) ?_
    refine lv_aload_n C.1 C.2.1 dL_law_492 rfl (lv_at hl 1 rfl) ?_
    refine lv_iload C.1 C.2.1 dL_law_493 (lv_at hl 5 rfl) ?_
    refine z_iconst C dL_law_495 ?_
    refine z_iadd C dL_law_496 ?_
    refine zd_ld C Z G q1 (x.toNat + 1) e1 (by omega) (by omega) dL_law_497 ?_
    refine lv_aload_n C.1 C.2.1 dL_law_498 rfl (lv_at hl 1 rfl) ?_
    refine lv_iload C.1 C.2.1 dL_law_499 (lv_at hl 5 rfl) ?_
    refine z_iconst C dL_law_501 ?_
    refine z_iadd C dL_law_502 ?_
    refine zd_ld C Z G q2 (x.toNat + 2) e2 (by omega) (by omega) dL_law_503 ?_
    refine zd_M (as := [.int (iZ (q1)), .int (iZ (q2))]) C Y G (c_X5_swap l D cJ u v _ _ _ _ _ (q1) (q2) (by first | assumption | omega) (by first | assumption | omega)) ml_L_192 rfl ⟨Nat.le_of_ble_eq_true rfl, Nat.le_of_ble_eq_true rfl⟩ ⟨by show cells + 0 + 0 ≤ 665281; omega, by show slots + 0 + 0 ≤ 7105636; omega⟩ hl (Nat.le_of_ble_eq_true rfl) rfl dL_law_504 (fun y9 H locs hy9 G => ?_)
    subst hy9
    refine lv_istore (lv' := [(6, _), (5, .int (iZ (0))), (0, .ref t), (1, .ref o), (2, .ref u), (3, .ref w), (4, .int (iZ (x)))]) C.1 C.2.1 dL_law_507 hl (by decide) rfl (fun ls hl => ?_)
    refine lv_goto (tgt := 2200) C.1 C.2.1 dL_law_509 (by decide) ?_
    exact kk _ _ _ _ _ _ _ _ _ _ _ _ G (by omega) (by omega) (lv_sub hl [2, 3, 4, 5, 6] rfl)
  · skip
    refine lv_aload_n C.1 C.2.1 dL_law_472 rfl (lv_at hl 1 rfl) ?_
    refine lv_aload_n C.1 C.2.1 dL_law_473 rfl (lv_at hl 0 rfl) ?_
    refine lv_iload C.1 C.2.1 dL_law_474 (lv_at hl 4 rfl) ?_
    refine z_iconst C dL_law_476 ?_
    refine z_iadd C dL_law_477 ?_
    refine zd_ld C Z G q1 (x.toNat + 1) e1 (by omega) (by omega) dL_law_478 ?_
    refine lv_aload_n C.1 C.2.1 dL_law_479 rfl (lv_at hl 0 rfl) ?_
    refine lv_iload C.1 C.2.1 dL_law_480 (lv_at hl 4 rfl) ?_
    refine z_iconst C dL_law_482 ?_
    refine z_iadd C dL_law_483 ?_
    refine zd_ld C Z G q2 (x.toNat + 2) e2 (by omega) (by omega) dL_law_484 ?_
    refine lv_aload_n C.1 C.2.1 dL_law_485 rfl (lv_at hl 3 rfl) ?_
    refine zd_W (as := [.ref o, .int (iZ (q1)), .int (iZ (q2)), .ref w]) C Z Y G (c_L_swap_badc l hlq D cJ o a _ _ _ _ (q1) (q2) (by first | assumption | omega) (by first | assumption | omega) (by first | assumption | omega) w _ _) ml_L_190 ⟨Nat.le_of_ble_eq_true rfl, Nat.le_of_ble_eq_true rfl⟩ ⟨by show cells + 0 + 1 ≤ 665281; omega, by show slots + 0 + 6 ≤ 7105636; omega⟩ hl (Nat.le_of_ble_eq_true rfl) rfl dL_law_486 (fun H locs G => ?_)
    refine lv_istore (lv' := [(5, .int (iZ (1))), (0, .ref t), (1, .ref o), (2, .ref u), (3, .ref w), (4, .int (iZ (x)))]) C.1 C.2.1 dL_law_489 hl (by decide) rfl (fun ls hl => ?_)
    refine lv_aload_n C.1 C.2.1 dL_law_491 rfl (lv_at hl 3 rfl) ?_
    refine lv_aload_n C.1 C.2.1 dL_law_492 rfl (lv_at hl 1 rfl) ?_
    refine lv_iload C.1 C.2.1 dL_law_493 (lv_at hl 5 rfl) ?_
    refine z_iconst C dL_law_495 ?_
    refine z_iadd C dL_law_496 ?_
    refine zd_ld C Z G q1 (x.toNat + 1) e1 (by omega) (by omega) dL_law_497 ?_
    refine lv_aload_n C.1 C.2.1 dL_law_498 rfl (lv_at hl 1 rfl) ?_
    refine lv_iload C.1 C.2.1 dL_law_499 (lv_at hl 5 rfl) ?_
    refine z_iconst C dL_law_501 ?_
    refine z_iadd C dL_law_502 ?_
    refine zd_ld C Z G q2 (x.toNat + 2) e2 (by omega) (by omega) dL_law_503 ?_
    refine zd_M (as := [.int (iZ (q1)), .int (iZ (q2))]) C Y G (c_X5_swap_bad1 l D cJ u v _ _ _ _ _ (q1) (q2) (by first | assumption | omega) (by first | assumption | omega) (by first | assumption | omega)) ml_L_192 rfl ⟨Nat.le_of_ble_eq_true rfl, Nat.le_of_ble_eq_true rfl⟩ ⟨by show cells + 1 + 0 ≤ 665281; omega, by show slots + 6 + 0 ≤ 7105636; omega⟩ hl (Nat.le_of_ble_eq_true rfl) rfl dL_law_504 (fun y9 H locs hy9 G => ?_)
    subst hy9
    refine lv_istore (lv' := [(6, _), (5, .int (iZ (1))), (0, .ref t), (1, .ref o), (2, .ref u), (3, .ref w), (4, .int (iZ (x)))]) C.1 C.2.1 dL_law_507 hl (by decide) rfl (fun ls hl => ?_)
    refine lv_goto (tgt := 2200) C.1 C.2.1 dL_law_509 (by decide) ?_
    exact kk _ _ _ _ _ _ _ _ _ _ _ _ G (by omega) (by omega) (lv_sub hl [2, 3, 4, 5, 6] rfl)
set_option maxHeartbeats 4000000 in
set_option maxRecDepth 100000 in
theorem lk_6 (hlq : l.stackTraces = false) (C : CallFix p m c0 cL_law 7 s args T0 RL) (Z : zLw D cB t N g s) (Y : zAd o a u v w s) {c : Nat → Nat} {ac re kn : Int32} {th : Int} {n : Int64} {sv : Value} {H : Heap} {locs : List Loc} {ls : Array Slot} {cells slots : Nat} (G : zG D cJ o a u v w c [.int ac, .int re, .int kn] c [.int (iZ th), .int ac, .int re, .int kn] n sv s H locs) (x : Int) (hx : 0 ≤ x ∧ x + 5 ≤ (N : Int)) (hf : cells + 150 ≤ 665281 ∧ slots + 75000 ≤ 7105636) (hl : lv_has ls 7 [(0, .ref t), (1, .ref o), (2, .ref u), (3, .ref w), (4, .int (iZ (x)))])
    (kk : zNx p l e s m args below meth c0 D cJ t o a u v w x cells slots Qw 2200) : W p l e room_1 s m args below meth c0 H locs cells slots Qw (F0 m 512 ls []) := by
  have hc := G.1.2.2.2
  obtain ⟨q1, e1⟩ : ∃ z, g (x.toNat + 1) = z := ⟨_, rfl⟩
  have r1 : -2147483648 ≤ q1 ∧ q1 ≤ 2147483647 := e1 ▸ Z.2.2.2.2.2.1 _
  obtain ⟨q2, e2⟩ : ∃ z, g (x.toNat + 2) = z := ⟨_, rfl⟩
  have r2 : -2147483648 ≤ q2 ∧ q2 ≤ 2147483647 := e2 ▸ Z.2.2.2.2.2.1 _
  obtain ⟨q3, e3⟩ : ∃ z, g (x.toNat + 3) = z := ⟨_, rfl⟩
  have r3 : -2147483648 ≤ q3 ∧ q3 ≤ 2147483647 := e3 ▸ Z.2.2.2.2.2.1 _
  obtain ⟨q4, e4⟩ : ∃ z, g (x.toNat + 4) = z := ⟨_, rfl⟩
  have r4 : -2147483648 ≤ q4 ∧ q4 ≤ 2147483647 := e4 ▸ Z.2.2.2.2.2.1 _
  by_cases hcel : (0 ≤ q1 ∧ q1 ≤ 5) ∧ (0 ≤ q2 ∧ q2 ≤ 5) ∧ (0 ≤ q4 ∧ q4 ≤ 5)
  · skip
    refine lv_aload_n C.1 C.2.1 dL_law_512 rfl (lv_at hl 1 rfl) ?_
    refine lv_aload_n C.1 C.2.1 dL_law_513 rfl (lv_at hl 0 rfl) ?_
    refine lv_iload C.1 C.2.1 dL_law_514 (lv_at hl 4 rfl) ?_
    refine z_iconst C dL_law_516 ?_
    refine z_iadd C dL_law_517 ?_
    refine zd_ld C Z G q1 (x.toNat + 1) e1 (by omega) (by omega) dL_law_518 ?_
    refine lv_aload_n C.1 C.2.1 dL_law_519 rfl (lv_at hl 0 rfl) ?_
    refine lv_iload C.1 C.2.1 dL_law_520 (lv_at hl 4 rfl) ?_
    refine z_iconst C dL_law_522 ?_
    refine z_iadd C dL_law_523 ?_
    refine zd_ld C Z G q2 (x.toNat + 2) e2 (by omega) (by omega) dL_law_524 ?_
    refine lv_aload_n C.1 C.2.1 dL_law_525 rfl (lv_at hl 0 rfl) ?_
    refine lv_iload C.1 C.2.1 dL_law_526 (lv_at hl 4 rfl) ?_
    refine z_iconst C dL_law_528 ?_
    refine z_iadd C dL_law_529 ?_
    refine zd_ld C Z G q3 (x.toNat + 3) e3 (by omega) (by omega) dL_law_530 ?_
    refine zd_nz C (by omega) dL_law_531 dL_law_534 dL_law_535 dL_law_538 ?_
    refine lv_aload_n C.1 C.2.1 dL_law_539 rfl (lv_at hl 0 rfl) ?_
    refine lv_iload C.1 C.2.1 dL_law_540 (lv_at hl 4 rfl) ?_
    refine z_iconst C dL_law_542 ?_
    refine z_iadd C dL_law_543 ?_
    refine zd_ld C Z G q4 (x.toNat + 4) e4 (by omega) (by omega) dL_law_544 ?_
    refine lv_aload_n C.1 C.2.1 dL_law_545 rfl (lv_at hl 3 rfl) ?_
    refine zd_W (as := [.ref o, .int (iZ (q1)), .int (iZ (q2)), .int (iZ (zB (decide (q3 ≠ 0)))), .int (iZ (q4)), .ref w]) C Z Y G (c_L_end l D cJ o a _ _ _ _ (q1) (q2) (decide (q3 ≠ 0)) (q4) (by first | assumption | omega) (by first | assumption | omega) (by first | assumption | omega) w _ _) ml_L_193 ⟨Nat.le_of_ble_eq_true rfl, Nat.le_of_ble_eq_true rfl⟩ ⟨by show cells + 0 + 0 ≤ 665281; omega, by show slots + 0 + 0 ≤ 7105636; omega⟩ hl (Nat.le_of_ble_eq_true rfl) rfl dL_law_546 (fun H locs G => ?_)
    refine lv_istore (lv' := [(5, .int (iZ (0))), (0, .ref t), (1, .ref o), (2, .ref u), (3, .ref w), (4, .int (iZ (x)))]) C.1 C.2.1 dL_law_549 hl (by decide) rfl (fun ls hl => ?_)
    refine lv_aload_n C.1 C.2.1 dL_law_551 rfl (lv_at hl 3 rfl) ?_
    refine lv_aload_n C.1 C.2.1 dL_law_552 rfl (lv_at hl 1 rfl) ?_
    refine lv_iload C.1 C.2.1 dL_law_553 (lv_at hl 5 rfl) ?_
    refine z_iconst C dL_law_555 ?_
    refine z_iadd C dL_law_556 ?_
    refine zd_ld C Z G q1 (x.toNat + 1) e1 (by omega) (by omega) dL_law_557 ?_
    refine lv_aload_n C.1 C.2.1 dL_law_558 rfl (lv_at hl 1 rfl) ?_
    refine lv_iload C.1 C.2.1 dL_law_559 (lv_at hl 5 rfl) ?_
    refine z_iconst C dL_law_561 ?_
    refine z_iadd C dL_law_562 ?_
    refine zd_ld C Z G q2 (x.toNat + 2) e2 (by omega) (by omega) dL_law_563 ?_
    refine lv_aload_n C.1 C.2.1 dL_law_564 rfl (lv_at hl 1 rfl) ?_
    refine lv_iload C.1 C.2.1 dL_law_565 (lv_at hl 5 rfl) ?_
    refine z_iconst C dL_law_567 ?_
    refine z_iadd C dL_law_568 ?_
    refine zd_ld C Z G q3 (x.toNat + 3) e3 (by omega) (by omega) dL_law_569 ?_
    refine zd_nz C (by omega) dL_law_570 dL_law_573 dL_law_574 dL_law_577 ?_
    refine lv_aload_n C.1 C.2.1 dL_law_578 rfl (lv_at hl 1 rfl) ?_
    refine lv_iload C.1 C.2.1 dL_law_579 (lv_at hl 5 rfl) ?_
    refine z_iconst C dL_law_581 ?_
    refine z_iadd C dL_law_582 ?_
    refine zd_ld C Z G q4 (x.toNat + 4) e4 (by omega) (by omega) dL_law_583 ?_
    refine zd_M (as := [.int (iZ (q1)), .int (iZ (q2)), .int (iZ (zB (decide (q3 ≠ 0)))), .int (iZ (q4))]) C Y G (c_X5_end l D cJ u v _ _ _ _ _ (q1) (q2) (decide (q3 ≠ 0)) (q4) (by first | assumption | omega) (by first | assumption | omega) (by first | assumption | omega)) ml_L_196 rfl ⟨Nat.le_of_ble_eq_true rfl, Nat.le_of_ble_eq_true rfl⟩ ⟨by show cells + 0 + 0 ≤ 665281; omega, by show slots + 0 + 0 ≤ 7105636; omega⟩ hl (Nat.le_of_ble_eq_true rfl) rfl dL_law_584 (fun y9 H locs hy9 G => ?_)
    subst hy9
    refine lv_istore (lv' := [(6, _), (5, .int (iZ (0))), (0, .ref t), (1, .ref o), (2, .ref u), (3, .ref w), (4, .int (iZ (x)))]) C.1 C.2.1 dL_law_587 hl (by decide) rfl (fun ls hl => ?_)
    refine lv_goto (tgt := 2200) C.1 C.2.1 dL_law_589 (by decide) ?_
    exact kk _ _ _ _ _ _ _ _ _ _ _ _ G (by omega) (by omega) (lv_sub hl [2, 3, 4, 5, 6] rfl)
  · skip
    refine lv_aload_n C.1 C.2.1 dL_law_512 rfl (lv_at hl 1 rfl) ?_
    refine lv_aload_n C.1 C.2.1 dL_law_513 rfl (lv_at hl 0 rfl) ?_
    refine lv_iload C.1 C.2.1 dL_law_514 (lv_at hl 4 rfl) ?_
    refine z_iconst C dL_law_516 ?_
    refine z_iadd C dL_law_517 ?_
    refine zd_ld C Z G q1 (x.toNat + 1) e1 (by omega) (by omega) dL_law_518 ?_
    refine lv_aload_n C.1 C.2.1 dL_law_519 rfl (lv_at hl 0 rfl) ?_
    refine lv_iload C.1 C.2.1 dL_law_520 (lv_at hl 4 rfl) ?_
    refine z_iconst C dL_law_522 ?_
    refine z_iadd C dL_law_523 ?_
    refine zd_ld C Z G q2 (x.toNat + 2) e2 (by omega) (by omega) dL_law_524 ?_
    refine lv_aload_n C.1 C.2.1 dL_law_525 rfl (lv_at hl 0 rfl) ?_
    refine lv_iload C.1 C.2.1 dL_law_526 (lv_at hl 4 rfl) ?_
    refine z_iconst C dL_law_528 ?_
    refine z_iadd C dL_law_529 ?_
    refine zd_ld C Z G q3 (x.toNat + 3) e3 (by omega) (by omega) dL_law_530 ?_
    refine zd_nz C (by omega) dL_law_531 dL_law_534 dL_law_535 dL_law_538 ?_
    refine lv_aload_n C.1 C.2.1 dL_law_539 rfl (lv_at hl 0 rfl) ?_
    refine lv_iload C.1 C.2.1 dL_law_540 (lv_at hl 4 rfl) ?_
    refine z_iconst C dL_law_542 ?_
    refine z_iadd C dL_law_543 ?_
    refine zd_ld C Z G q4 (x.toNat + 4) e4 (by omega) (by omega) dL_law_544 ?_
    refine lv_aload_n C.1 C.2.1 dL_law_545 rfl (lv_at hl 3 rfl) ?_
    refine zd_W (as := [.ref o, .int (iZ (q1)), .int (iZ (q2)), .int (iZ (zB (decide (q3 ≠ 0)))), .int (iZ (q4)), .ref w]) C Z Y G (c_L_end_badc l hlq D cJ o a _ _ _ _ (q1) (q2) (decide (q3 ≠ 0)) (q4) (by first | assumption | omega) (by first | assumption | omega) (by first | assumption | omega) (by first | assumption | omega) w _ _) ml_L_193 ⟨Nat.le_of_ble_eq_true rfl, Nat.le_of_ble_eq_true rfl⟩ ⟨by show cells + 0 + 1 ≤ 665281; omega, by show slots + 0 + 6 ≤ 7105636; omega⟩ hl (Nat.le_of_ble_eq_true rfl) rfl dL_law_546 (fun H locs G => ?_)
    refine lv_istore (lv' := [(5, .int (iZ (1))), (0, .ref t), (1, .ref o), (2, .ref u), (3, .ref w), (4, .int (iZ (x)))]) C.1 C.2.1 dL_law_549 hl (by decide) rfl (fun ls hl => ?_)
    refine lv_aload_n C.1 C.2.1 dL_law_551 rfl (lv_at hl 3 rfl) ?_
    refine lv_aload_n C.1 C.2.1 dL_law_552 rfl (lv_at hl 1 rfl) ?_
    refine lv_iload C.1 C.2.1 dL_law_553 (lv_at hl 5 rfl) ?_
    refine z_iconst C dL_law_555 ?_
    refine z_iadd C dL_law_556 ?_
    refine zd_ld C Z G q1 (x.toNat + 1) e1 (by omega) (by omega) dL_law_557 ?_
    refine lv_aload_n C.1 C.2.1 dL_law_558 rfl (lv_at hl 1 rfl) ?_
    refine lv_iload C.1 C.2.1 dL_law_559 (lv_at hl 5 rfl) ?_
    refine z_iconst C dL_law_561 ?_
    refine z_iadd C dL_law_562 ?_
    refine zd_ld C Z G q2 (x.toNat + 2) e2 (by omega) (by omega) dL_law_563 ?_
    refine lv_aload_n C.1 C.2.1 dL_law_564 rfl (lv_at hl 1 rfl) ?_
    refine lv_iload C.1 C.2.1 dL_law_565 (lv_at hl 5 rfl) ?_
    refine z_iconst C dL_law_567 ?_
    refine z_iadd C dL_law_568 ?_
    refine zd_ld C Z G q3 (x.toNat + 3) e3 (by omega) (by omega) dL_law_569 ?_
    refine zd_nz C (by omega) dL_law_570 dL_law_573 dL_law_574 dL_law_577 ?_
    refine lv_aload_n C.1 C.2.1 dL_law_578 rfl (lv_at hl 1 rfl) ?_
    refine lv_iload C.1 C.2.1 dL_law_579 (lv_at hl 5 rfl) ?_
    refine z_iconst C dL_law_581 ?_
    refine z_iadd C dL_law_582 ?_
    refine zd_ld C Z G q4 (x.toNat + 4) e4 (by omega) (by omega) dL_law_583 ?_
    refine zd_M (as := [.int (iZ (q1)), .int (iZ (q2)), .int (iZ (zB (decide (q3 ≠ 0)))), .int (iZ (q4))]) C Y G (c_X5_end_bad1 l D cJ u v _ _ _ _ _ (q1) (q2) (decide (q3 ≠ 0)) (q4) (by first | assumption | omega) (by first | assumption | omega) (by first | assumption | omega) (by first | assumption | omega)) ml_L_196 rfl ⟨Nat.le_of_ble_eq_true rfl, Nat.le_of_ble_eq_true rfl⟩ ⟨by show cells + 1 + 0 ≤ 665281; omega, by show slots + 6 + 0 ≤ 7105636; omega⟩ hl (Nat.le_of_ble_eq_true rfl) rfl dL_law_584 (fun y9 H locs hy9 G => ?_)
    subst hy9
    refine lv_istore (lv' := [(6, _), (5, .int (iZ (1))), (0, .ref t), (1, .ref o), (2, .ref u), (3, .ref w), (4, .int (iZ (x)))]) C.1 C.2.1 dL_law_587 hl (by decide) rfl (fun ls hl => ?_)
    refine lv_goto (tgt := 2200) C.1 C.2.1 dL_law_589 (by decide) ?_
    exact kk _ _ _ _ _ _ _ _ _ _ _ _ G (by omega) (by omega) (lv_sub hl [2, 3, 4, 5, 6] rfl)
set_option maxHeartbeats 4000000 in
set_option maxRecDepth 100000 in
theorem lk_7 (hlq : l.stackTraces = false) (C : CallFix p m c0 cL_law 7 s args T0 RL) (Z : zLw D cB t N g s) (Y : zAd o a u v w s) {c : Nat → Nat} {ac re kn : Int32} {th : Int} {n : Int64} {sv : Value} {H : Heap} {locs : List Loc} {ls : Array Slot} {cells slots : Nat} (G : zG D cJ o a u v w c [.int ac, .int re, .int kn] c [.int (iZ th), .int ac, .int re, .int kn] n sv s H locs) (x : Int) (hx : 0 ≤ x ∧ x + 5 ≤ (N : Int)) (hf : cells + 150 ≤ 665281 ∧ slots + 75000 ≤ 7105636) (hl : lv_has ls 7 [(0, .ref t), (1, .ref o), (2, .ref u), (3, .ref w), (4, .int (iZ (x)))])
    (kk : zNx p l e s m args below meth c0 D cJ t o a u v w x cells slots Qw 2200) : W p l e room_1 s m args below meth c0 H locs cells slots Qw (F0 m 592 ls []) := by
  have hc := G.1.2.2.2
  obtain ⟨q1, e1⟩ : ∃ z, g (x.toNat + 1) = z := ⟨_, rfl⟩
  have r1 : -2147483648 ≤ q1 ∧ q1 ≤ 2147483647 := e1 ▸ Z.2.2.2.2.2.1 _
  obtain ⟨q2, e2⟩ : ∃ z, g (x.toNat + 2) = z := ⟨_, rfl⟩
  have r2 : -2147483648 ≤ q2 ∧ q2 ≤ 2147483647 := e2 ▸ Z.2.2.2.2.2.1 _
  obtain ⟨q3, e3⟩ : ∃ z, g (x.toNat + 3) = z := ⟨_, rfl⟩
  have r3 : -2147483648 ≤ q3 ∧ q3 ≤ 2147483647 := e3 ▸ Z.2.2.2.2.2.1 _
  obtain ⟨q4, e4⟩ : ∃ z, g (x.toNat + 4) = z := ⟨_, rfl⟩
  have r4 : -2147483648 ≤ q4 ∧ q4 ≤ 2147483647 := e4 ▸ Z.2.2.2.2.2.1 _
  by_cases hcel : (0 ≤ q1 ∧ q1 ≤ 5) ∧ (0 ≤ q2 ∧ q2 ≤ 5) ∧ (0 ≤ q4 ∧ q4 ≤ 5)
  · skip
    by_cases hrng : (0 ≤ q3 ∧ q3 ≤ 3)
    · skip
      refine lv_aload_n C.1 C.2.1 dL_law_592 rfl (lv_at hl 1 rfl) ?_
      refine lv_aload_n C.1 C.2.1 dL_law_593 rfl (lv_at hl 0 rfl) ?_
      refine lv_iload C.1 C.2.1 dL_law_594 (lv_at hl 4 rfl) ?_
      refine z_iconst C dL_law_596 ?_
      refine z_iadd C dL_law_597 ?_
      refine zd_ld C Z G q1 (x.toNat + 1) e1 (by omega) (by omega) dL_law_598 ?_
      refine lv_aload_n C.1 C.2.1 dL_law_599 rfl (lv_at hl 0 rfl) ?_
      refine lv_iload C.1 C.2.1 dL_law_600 (lv_at hl 4 rfl) ?_
      refine z_iconst C dL_law_602 ?_
      refine z_iadd C dL_law_603 ?_
      refine zd_ld C Z G q2 (x.toNat + 2) e2 (by omega) (by omega) dL_law_604 ?_
      refine lv_aload_n C.1 C.2.1 dL_law_605 rfl (lv_at hl 0 rfl) ?_
      refine lv_iload C.1 C.2.1 dL_law_606 (lv_at hl 4 rfl) ?_
      refine z_iconst C dL_law_608 ?_
      refine z_iadd C dL_law_609 ?_
      refine zd_ld C Z G q3 (x.toNat + 3) e3 (by omega) (by omega) dL_law_610 ?_
      refine lv_aload_n C.1 C.2.1 dL_law_611 rfl (lv_at hl 0 rfl) ?_
      refine lv_iload C.1 C.2.1 dL_law_612 (lv_at hl 4 rfl) ?_
      refine z_iconst C dL_law_614 ?_
      refine z_iadd C dL_law_615 ?_
      refine zd_ld C Z G q4 (x.toNat + 4) e4 (by omega) (by omega) dL_law_616 ?_
      refine lv_aload_n C.1 C.2.1 dL_law_617 rfl (lv_at hl 3 rfl) ?_
      refine zd_W (as := [.ref o, .int (iZ (q1)), .int (iZ (q2)), .int (iZ (q3)), .int (iZ (q4)), .ref w]) C Z Y G (c_L_join l D cJ o a _ _ _ _ (q1) (q2) (q3) (q4) (by first | assumption | omega) (by first | assumption | omega) (by first | assumption | omega) (by first | assumption | omega) w _ _) ml_L_197 ⟨Nat.le_of_ble_eq_true rfl, Nat.le_of_ble_eq_true rfl⟩ ⟨by show cells + 0 + 0 ≤ 665281; omega, by show slots + 0 + 0 ≤ 7105636; omega⟩ hl (Nat.le_of_ble_eq_true rfl) rfl dL_law_618 (fun H locs G => ?_)
      refine lv_istore (lv' := [(5, .int (iZ (0))), (0, .ref t), (1, .ref o), (2, .ref u), (3, .ref w), (4, .int (iZ (x)))]) C.1 C.2.1 dL_law_621 hl (by decide) rfl (fun ls hl => ?_)
      refine lv_aload_n C.1 C.2.1 dL_law_623 rfl (lv_at hl 3 rfl) ?_
      refine lv_aload_n C.1 C.2.1 dL_law_624 rfl (lv_at hl 1 rfl) ?_
      refine lv_iload C.1 C.2.1 dL_law_625 (lv_at hl 5 rfl) ?_
      refine z_iconst C dL_law_627 ?_
      refine z_iadd C dL_law_628 ?_
      refine zd_ld C Z G q1 (x.toNat + 1) e1 (by omega) (by omega) dL_law_629 ?_
      refine lv_aload_n C.1 C.2.1 dL_law_630 rfl (lv_at hl 1 rfl) ?_
      refine lv_iload C.1 C.2.1 dL_law_631 (lv_at hl 5 rfl) ?_
      refine z_iconst C dL_law_633 ?_
      refine z_iadd C dL_law_634 ?_
      refine zd_ld C Z G q2 (x.toNat + 2) e2 (by omega) (by omega) dL_law_635 ?_
      refine lv_aload_n C.1 C.2.1 dL_law_636 rfl (lv_at hl 1 rfl) ?_
      refine lv_iload C.1 C.2.1 dL_law_637 (lv_at hl 5 rfl) ?_
      refine z_iconst C dL_law_639 ?_
      refine z_iadd C dL_law_640 ?_
      refine zd_ld C Z G q3 (x.toNat + 3) e3 (by omega) (by omega) dL_law_641 ?_
      refine lv_aload_n C.1 C.2.1 dL_law_642 rfl (lv_at hl 1 rfl) ?_
      refine lv_iload C.1 C.2.1 dL_law_643 (lv_at hl 5 rfl) ?_
      refine z_iconst C dL_law_645 ?_
      refine z_iadd C dL_law_646 ?_
      refine zd_ld C Z G q4 (x.toNat + 4) e4 (by omega) (by omega) dL_law_647 ?_
      refine zd_M (as := [.int (iZ (q1)), .int (iZ (q2)), .int (iZ (q3)), .int (iZ (q4))]) C Y G (c_X5_join l D cJ u v _ _ _ _ _ (q1) (q2) (q3) (q4) (by first | assumption | omega) (by first | assumption | omega) (by first | assumption | omega) (by first | assumption | omega)) ml_L_200 rfl ⟨Nat.le_of_ble_eq_true rfl, Nat.le_of_ble_eq_true rfl⟩ ⟨by show cells + 0 + 0 ≤ 665281; omega, by show slots + 0 + 0 ≤ 7105636; omega⟩ hl (Nat.le_of_ble_eq_true rfl) rfl dL_law_648 (fun y9 H locs hy9 G => ?_)
      subst hy9
      refine lv_istore (lv' := [(6, _), (5, .int (iZ (0))), (0, .ref t), (1, .ref o), (2, .ref u), (3, .ref w), (4, .int (iZ (x)))]) C.1 C.2.1 dL_law_651 hl (by decide) rfl (fun ls hl => ?_)
      refine lv_goto (tgt := 2200) C.1 C.2.1 dL_law_653 (by decide) ?_
      exact kk _ _ _ _ _ _ _ _ _ _ _ _ G (by omega) (by omega) (lv_sub hl [2, 3, 4, 5, 6] rfl)
    · skip
      refine lv_aload_n C.1 C.2.1 dL_law_592 rfl (lv_at hl 1 rfl) ?_
      refine lv_aload_n C.1 C.2.1 dL_law_593 rfl (lv_at hl 0 rfl) ?_
      refine lv_iload C.1 C.2.1 dL_law_594 (lv_at hl 4 rfl) ?_
      refine z_iconst C dL_law_596 ?_
      refine z_iadd C dL_law_597 ?_
      refine zd_ld C Z G q1 (x.toNat + 1) e1 (by omega) (by omega) dL_law_598 ?_
      refine lv_aload_n C.1 C.2.1 dL_law_599 rfl (lv_at hl 0 rfl) ?_
      refine lv_iload C.1 C.2.1 dL_law_600 (lv_at hl 4 rfl) ?_
      refine z_iconst C dL_law_602 ?_
      refine z_iadd C dL_law_603 ?_
      refine zd_ld C Z G q2 (x.toNat + 2) e2 (by omega) (by omega) dL_law_604 ?_
      refine lv_aload_n C.1 C.2.1 dL_law_605 rfl (lv_at hl 0 rfl) ?_
      refine lv_iload C.1 C.2.1 dL_law_606 (lv_at hl 4 rfl) ?_
      refine z_iconst C dL_law_608 ?_
      refine z_iadd C dL_law_609 ?_
      refine zd_ld C Z G q3 (x.toNat + 3) e3 (by omega) (by omega) dL_law_610 ?_
      refine lv_aload_n C.1 C.2.1 dL_law_611 rfl (lv_at hl 0 rfl) ?_
      refine lv_iload C.1 C.2.1 dL_law_612 (lv_at hl 4 rfl) ?_
      refine z_iconst C dL_law_614 ?_
      refine z_iadd C dL_law_615 ?_
      refine zd_ld C Z G q4 (x.toNat + 4) e4 (by omega) (by omega) dL_law_616 ?_
      refine lv_aload_n C.1 C.2.1 dL_law_617 rfl (lv_at hl 3 rfl) ?_
      refine zd_W (as := [.ref o, .int (iZ (q1)), .int (iZ (q2)), .int (iZ (q3)), .int (iZ (q4)), .ref w]) C Z Y G (c_L_join_badr l hlq D cJ o a _ _ _ _ (q1) (q2) (q3) (q4) (by first | assumption | omega) (by first | assumption | omega) (by first | assumption | omega) (by first | assumption | omega) (by first | assumption | omega) (by first | assumption | omega) (by first | assumption | omega) (by first | assumption | omega) w _ _) ml_L_197 ⟨Nat.le_of_ble_eq_true rfl, Nat.le_of_ble_eq_true rfl⟩ ⟨by show cells + 0 + 1 ≤ 665281; omega, by show slots + 0 + 6 ≤ 7105636; omega⟩ hl (Nat.le_of_ble_eq_true rfl) rfl dL_law_618 (fun H locs G => ?_)
      refine lv_istore (lv' := [(5, .int (iZ (2))), (0, .ref t), (1, .ref o), (2, .ref u), (3, .ref w), (4, .int (iZ (x)))]) C.1 C.2.1 dL_law_621 hl (by decide) rfl (fun ls hl => ?_)
      refine lv_aload_n C.1 C.2.1 dL_law_623 rfl (lv_at hl 3 rfl) ?_
      refine lv_aload_n C.1 C.2.1 dL_law_624 rfl (lv_at hl 1 rfl) ?_
      refine lv_iload C.1 C.2.1 dL_law_625 (lv_at hl 5 rfl) ?_
      refine z_iconst C dL_law_627 ?_
      refine z_iadd C dL_law_628 ?_
      refine zd_ld C Z G q1 (x.toNat + 1) e1 (by omega) (by omega) dL_law_629 ?_
      refine lv_aload_n C.1 C.2.1 dL_law_630 rfl (lv_at hl 1 rfl) ?_
      refine lv_iload C.1 C.2.1 dL_law_631 (lv_at hl 5 rfl) ?_
      refine z_iconst C dL_law_633 ?_
      refine z_iadd C dL_law_634 ?_
      refine zd_ld C Z G q2 (x.toNat + 2) e2 (by omega) (by omega) dL_law_635 ?_
      refine lv_aload_n C.1 C.2.1 dL_law_636 rfl (lv_at hl 1 rfl) ?_
      refine lv_iload C.1 C.2.1 dL_law_637 (lv_at hl 5 rfl) ?_
      refine z_iconst C dL_law_639 ?_
      refine z_iadd C dL_law_640 ?_
      refine zd_ld C Z G q3 (x.toNat + 3) e3 (by omega) (by omega) dL_law_641 ?_
      refine lv_aload_n C.1 C.2.1 dL_law_642 rfl (lv_at hl 1 rfl) ?_
      refine lv_iload C.1 C.2.1 dL_law_643 (lv_at hl 5 rfl) ?_
      refine z_iconst C dL_law_645 ?_
      refine z_iadd C dL_law_646 ?_
      refine zd_ld C Z G q4 (x.toNat + 4) e4 (by omega) (by omega) dL_law_647 ?_
      refine zd_M (as := [.int (iZ (q1)), .int (iZ (q2)), .int (iZ (q3)), .int (iZ (q4))]) C Y G (c_X5_join_bad2 l D cJ u v _ _ _ _ _ (q1) (q2) (q3) (q4) (by first | assumption | omega) (by first | assumption | omega) (by first | assumption | omega) (by first | assumption | omega) (by first | assumption | omega) (by first | assumption | omega)) ml_L_200 rfl ⟨Nat.le_of_ble_eq_true rfl, Nat.le_of_ble_eq_true rfl⟩ ⟨by show cells + 1 + 0 ≤ 665281; omega, by show slots + 6 + 0 ≤ 7105636; omega⟩ hl (Nat.le_of_ble_eq_true rfl) rfl dL_law_648 (fun y9 H locs hy9 G => ?_)
      subst hy9
      refine lv_istore (lv' := [(6, _), (5, .int (iZ (2))), (0, .ref t), (1, .ref o), (2, .ref u), (3, .ref w), (4, .int (iZ (x)))]) C.1 C.2.1 dL_law_651 hl (by decide) rfl (fun ls hl => ?_)
      refine lv_goto (tgt := 2200) C.1 C.2.1 dL_law_653 (by decide) ?_
      exact kk _ _ _ _ _ _ _ _ _ _ _ _ G (by omega) (by omega) (lv_sub hl [2, 3, 4, 5, 6] rfl)
  · skip
    refine lv_aload_n C.1 C.2.1 dL_law_592 rfl (lv_at hl 1 rfl) ?_
    refine lv_aload_n C.1 C.2.1 dL_law_593 rfl (lv_at hl 0 rfl) ?_
    refine lv_iload C.1 C.2.1 dL_law_594 (lv_at hl 4 rfl) ?_
    refine z_iconst C dL_law_596 ?_
    refine z_iadd C dL_law_597 ?_
    refine zd_ld C Z G q1 (x.toNat + 1) e1 (by omega) (by omega) dL_law_598 ?_
    refine lv_aload_n C.1 C.2.1 dL_law_599 rfl (lv_at hl 0 rfl) ?_
    refine lv_iload C.1 C.2.1 dL_law_600 (lv_at hl 4 rfl) ?_
    refine z_iconst C dL_law_602 ?_
    refine z_iadd C dL_law_603 ?_
    refine zd_ld C Z G q2 (x.toNat + 2) e2 (by omega) (by omega) dL_law_604 ?_
    refine lv_aload_n C.1 C.2.1 dL_law_605 rfl (lv_at hl 0 rfl) ?_
    refine lv_iload C.1 C.2.1 dL_law_606 (lv_at hl 4 rfl) ?_
    refine z_iconst C dL_law_608 ?_
    refine z_iadd C dL_law_609 ?_
    refine zd_ld C Z G q3 (x.toNat + 3) e3 (by omega) (by omega) dL_law_610 ?_
    refine lv_aload_n C.1 C.2.1 dL_law_611 rfl (lv_at hl 0 rfl) ?_
    refine lv_iload C.1 C.2.1 dL_law_612 (lv_at hl 4 rfl) ?_
    refine z_iconst C dL_law_614 ?_
    refine z_iadd C dL_law_615 ?_
    refine zd_ld C Z G q4 (x.toNat + 4) e4 (by omega) (by omega) dL_law_616 ?_
    refine lv_aload_n C.1 C.2.1 dL_law_617 rfl (lv_at hl 3 rfl) ?_
    refine zd_W (as := [.ref o, .int (iZ (q1)), .int (iZ (q2)), .int (iZ (q3)), .int (iZ (q4)), .ref w]) C Z Y G (c_L_join_badc l hlq D cJ o a _ _ _ _ (q1) (q2) (q3) (q4) (by first | assumption | omega) (by first | assumption | omega) (by first | assumption | omega) (by first | assumption | omega) (by first | assumption | omega) w _ _) ml_L_197 ⟨Nat.le_of_ble_eq_true rfl, Nat.le_of_ble_eq_true rfl⟩ ⟨by show cells + 0 + 1 ≤ 665281; omega, by show slots + 0 + 6 ≤ 7105636; omega⟩ hl (Nat.le_of_ble_eq_true rfl) rfl dL_law_618 (fun H locs G => ?_)
    refine lv_istore (lv' := [(5, .int (iZ (1))), (0, .ref t), (1, .ref o), (2, .ref u), (3, .ref w), (4, .int (iZ (x)))]) C.1 C.2.1 dL_law_621 hl (by decide) rfl (fun ls hl => ?_)
    refine lv_aload_n C.1 C.2.1 dL_law_623 rfl (lv_at hl 3 rfl) ?_
    refine lv_aload_n C.1 C.2.1 dL_law_624 rfl (lv_at hl 1 rfl) ?_
    refine lv_iload C.1 C.2.1 dL_law_625 (lv_at hl 5 rfl) ?_
    refine z_iconst C dL_law_627 ?_
    refine z_iadd C dL_law_628 ?_
    refine zd_ld C Z G q1 (x.toNat + 1) e1 (by omega) (by omega) dL_law_629 ?_
    refine lv_aload_n C.1 C.2.1 dL_law_630 rfl (lv_at hl 1 rfl) ?_
    refine lv_iload C.1 C.2.1 dL_law_631 (lv_at hl 5 rfl) ?_
    refine z_iconst C dL_law_633 ?_
    refine z_iadd C dL_law_634 ?_
    refine zd_ld C Z G q2 (x.toNat + 2) e2 (by omega) (by omega) dL_law_635 ?_
    refine lv_aload_n C.1 C.2.1 dL_law_636 rfl (lv_at hl 1 rfl) ?_
    refine lv_iload C.1 C.2.1 dL_law_637 (lv_at hl 5 rfl) ?_
    refine z_iconst C dL_law_639 ?_
    refine z_iadd C dL_law_640 ?_
    refine zd_ld C Z G q3 (x.toNat + 3) e3 (by omega) (by omega) dL_law_641 ?_
    refine lv_aload_n C.1 C.2.1 dL_law_642 rfl (lv_at hl 1 rfl) ?_
    refine lv_iload C.1 C.2.1 dL_law_643 (lv_at hl 5 rfl) ?_
    refine z_iconst C dL_law_645 ?_
    refine z_iadd C dL_law_646 ?_
    refine zd_ld C Z G q4 (x.toNat + 4) e4 (by omega) (by omega) dL_law_647 ?_
    refine zd_M (as := [.int (iZ (q1)), .int (iZ (q2)), .int (iZ (q3)), .int (iZ (q4))]) C Y G (c_X5_join_bad1 l D cJ u v _ _ _ _ _ (q1) (q2) (q3) (q4) (by first | assumption | omega) (by first | assumption | omega) (by first | assumption | omega) (by first | assumption | omega) (by first | assumption | omega)) ml_L_200 rfl ⟨Nat.le_of_ble_eq_true rfl, Nat.le_of_ble_eq_true rfl⟩ ⟨by show cells + 1 + 0 ≤ 665281; omega, by show slots + 6 + 0 ≤ 7105636; omega⟩ hl (Nat.le_of_ble_eq_true rfl) rfl dL_law_648 (fun y9 H locs hy9 G => ?_)
    subst hy9
    refine lv_istore (lv' := [(6, _), (5, .int (iZ (1))), (0, .ref t), (1, .ref o), (2, .ref u), (3, .ref w), (4, .int (iZ (x)))]) C.1 C.2.1 dL_law_651 hl (by decide) rfl (fun ls hl => ?_)
    refine lv_goto (tgt := 2200) C.1 C.2.1 dL_law_653 (by decide) ?_
    exact kk _ _ _ _ _ _ _ _ _ _ _ _ G (by omega) (by omega) (lv_sub hl [2, 3, 4, 5, 6] rfl)
set_option maxHeartbeats 4000000 in
set_option maxRecDepth 100000 in
theorem lk_8 (hlq : l.stackTraces = false) (C : CallFix p m c0 cL_law 7 s args T0 RL) (Z : zLw D cB t N g s) (Y : zAd o a u v w s) {c : Nat → Nat} {ac re kn : Int32} {th : Int} {n : Int64} {sv : Value} {H : Heap} {locs : List Loc} {ls : Array Slot} {cells slots : Nat} (G : zG D cJ o a u v w c [.int ac, .int re, .int kn] c [.int (iZ th), .int ac, .int re, .int kn] n sv s H locs) (x : Int) (hx : 0 ≤ x ∧ x + 5 ≤ (N : Int)) (hf : cells + 150 ≤ 665281 ∧ slots + 75000 ≤ 7105636) (hl : lv_has ls 7 [(0, .ref t), (1, .ref o), (2, .ref u), (3, .ref w), (4, .int (iZ (x)))])
    (kk : zNx p l e s m args below meth c0 D cJ t o a u v w x cells slots Qw 2200) : W p l e room_1 s m args below meth c0 H locs cells slots Qw (F0 m 656 ls []) := by
  have hc := G.1.2.2.2
  obtain ⟨q1, e1⟩ : ∃ z, g (x.toNat + 1) = z := ⟨_, rfl⟩
  have r1 : -2147483648 ≤ q1 ∧ q1 ≤ 2147483647 := e1 ▸ Z.2.2.2.2.2.1 _
  obtain ⟨q2, e2⟩ : ∃ z, g (x.toNat + 2) = z := ⟨_, rfl⟩
  have r2 : -2147483648 ≤ q2 ∧ q2 ≤ 2147483647 := e2 ▸ Z.2.2.2.2.2.1 _
  obtain ⟨q3, e3⟩ : ∃ z, g (x.toNat + 3) = z := ⟨_, rfl⟩
  have r3 : -2147483648 ≤ q3 ∧ q3 ≤ 2147483647 := e3 ▸ Z.2.2.2.2.2.1 _
  by_cases hcel : (0 ≤ q1 ∧ q1 ≤ 5) ∧ (0 ≤ q2 ∧ q2 ≤ 5) ∧ (0 ≤ q3 ∧ q3 ≤ 5)
  · skip
    refine lv_aload_n C.1 C.2.1 dL_law_656 rfl (lv_at hl 1 rfl) ?_
    refine lv_aload_n C.1 C.2.1 dL_law_657 rfl (lv_at hl 0 rfl) ?_
    refine lv_iload C.1 C.2.1 dL_law_658 (lv_at hl 4 rfl) ?_
    refine z_iconst C dL_law_660 ?_
    refine z_iadd C dL_law_661 ?_
    refine zd_ld C Z G q1 (x.toNat + 1) e1 (by omega) (by omega) dL_law_662 ?_
    refine lv_aload_n C.1 C.2.1 dL_law_663 rfl (lv_at hl 0 rfl) ?_
    refine lv_iload C.1 C.2.1 dL_law_664 (lv_at hl 4 rfl) ?_
    refine z_iconst C dL_law_666 ?_
    refine z_iadd C dL_law_667 ?_
    refine zd_ld C Z G q2 (x.toNat + 2) e2 (by omega) (by omega) dL_law_668 ?_
    refine lv_aload_n C.1 C.2.1 dL_law_669 rfl (lv_at hl 0 rfl) ?_
    refine lv_iload C.1 C.2.1 dL_law_670 (lv_at hl 4 rfl) ?_
    refine z_iconst C dL_law_672 ?_
    refine z_iadd C dL_law_673 ?_
    refine zd_ld C Z G q3 (x.toNat + 3) e3 (by omega) (by omega) dL_law_674 ?_
    refine lv_aload_n C.1 C.2.1 dL_law_675 rfl (lv_at hl 3 rfl) ?_
    refine zd_W (as := [.ref o, .int (iZ (q1)), .int (iZ (q2)), .int (iZ (q3)), .ref w]) C Z Y G (c_L_times l D cJ o a _ _ _ _ (q1) (q2) (q3) (by first | assumption | omega) (by first | assumption | omega) (by first | assumption | omega) w _ _) ml_L_201 ⟨Nat.le_of_ble_eq_true rfl, Nat.le_of_ble_eq_true rfl⟩ ⟨by show cells + 0 + 0 ≤ 665281; omega, by show slots + 0 + 0 ≤ 7105636; omega⟩ hl (Nat.le_of_ble_eq_true rfl) rfl dL_law_676 (fun H locs G => ?_)
    refine lv_istore (lv' := [(5, .int (iZ (0))), (0, .ref t), (1, .ref o), (2, .ref u), (3, .ref w), (4, .int (iZ (x)))]) C.1 C.2.1 dL_law_679 hl (by decide) rfl (fun ls hl => ?_)
    refine lv_aload_n C.1 C.2.1 dL_law_681 rfl (lv_at hl 3 rfl) ?_
    refine lv_aload_n C.1 C.2.1 dL_law_682 rfl (lv_at hl 1 rfl) ?_
    refine lv_iload C.1 C.2.1 dL_law_683 (lv_at hl 5 rfl) ?_
    refine z_iconst C dL_law_685 ?_
    refine z_iadd C dL_law_686 ?_
    refine zd_ld C Z G q1 (x.toNat + 1) e1 (by omega) (by omega) dL_law_687 ?_
    refine lv_aload_n C.1 C.2.1 dL_law_688 rfl (lv_at hl 1 rfl) ?_
    refine lv_iload C.1 C.2.1 dL_law_689 (lv_at hl 5 rfl) ?_
    refine z_iconst C dL_law_691 ?_
    refine z_iadd C dL_law_692 ?_
    refine zd_ld C Z G q2 (x.toNat + 2) e2 (by omega) (by omega) dL_law_693 ?_
    refine lv_aload_n C.1 C.2.1 dL_law_694 rfl (lv_at hl 1 rfl) ?_
    refine lv_iload C.1 C.2.1 dL_law_695 (lv_at hl 5 rfl) ?_
    refine z_iconst C dL_law_697 ?_
    refine z_iadd C dL_law_698 ?_
    refine zd_ld C Z G q3 (x.toNat + 3) e3 (by omega) (by omega) dL_law_699 ?_
    refine zd_M (as := [.int (iZ (q1)), .int (iZ (q2)), .int (iZ (q3))]) C Y G (c_X5_times l D cJ u v _ _ _ _ _ (q1) (q2) (q3) (by first | assumption | omega) (by first | assumption | omega) (by first | assumption | omega)) ml_L_204 rfl ⟨Nat.le_of_ble_eq_true rfl, Nat.le_of_ble_eq_true rfl⟩ ⟨by show cells + 0 + 0 ≤ 665281; omega, by show slots + 0 + 0 ≤ 7105636; omega⟩ hl (Nat.le_of_ble_eq_true rfl) rfl dL_law_700 (fun y9 H locs hy9 G => ?_)
    subst hy9
    refine lv_istore (lv' := [(6, _), (5, .int (iZ (0))), (0, .ref t), (1, .ref o), (2, .ref u), (3, .ref w), (4, .int (iZ (x)))]) C.1 C.2.1 dL_law_703 hl (by decide) rfl (fun ls hl => ?_)
    refine lv_goto (tgt := 2200) C.1 C.2.1 dL_law_705 (by decide) ?_
    exact kk _ _ _ _ _ _ _ _ _ _ _ _ G (by omega) (by omega) (lv_sub hl [2, 3, 4, 5, 6] rfl)
  · skip
    refine lv_aload_n C.1 C.2.1 dL_law_656 rfl (lv_at hl 1 rfl) ?_
    refine lv_aload_n C.1 C.2.1 dL_law_657 rfl (lv_at hl 0 rfl) ?_
    refine lv_iload C.1 C.2.1 dL_law_658 (lv_at hl 4 rfl) ?_
    refine z_iconst C dL_law_660 ?_
    refine z_iadd C dL_law_661 ?_
    refine zd_ld C Z G q1 (x.toNat + 1) e1 (by omega) (by omega) dL_law_662 ?_
    refine lv_aload_n C.1 C.2.1 dL_law_663 rfl (lv_at hl 0 rfl) ?_
    refine lv_iload C.1 C.2.1 dL_law_664 (lv_at hl 4 rfl) ?_
    refine z_iconst C dL_law_666 ?_
    refine z_iadd C dL_law_667 ?_
    refine zd_ld C Z G q2 (x.toNat + 2) e2 (by omega) (by omega) dL_law_668 ?_
    refine lv_aload_n C.1 C.2.1 dL_law_669 rfl (lv_at hl 0 rfl) ?_
    refine lv_iload C.1 C.2.1 dL_law_670 (lv_at hl 4 rfl) ?_
    refine z_iconst C dL_law_672 ?_
    refine z_iadd C dL_law_673 ?_
    refine zd_ld C Z G q3 (x.toNat + 3) e3 (by omega) (by omega) dL_law_674 ?_
    refine lv_aload_n C.1 C.2.1 dL_law_675 rfl (lv_at hl 3 rfl) ?_
    refine zd_W (as := [.ref o, .int (iZ (q1)), .int (iZ (q2)), .int (iZ (q3)), .ref w]) C Z Y G (c_L_times_badc l hlq D cJ o a _ _ _ _ (q1) (q2) (q3) (by first | assumption | omega) (by first | assumption | omega) (by first | assumption | omega) (by first | assumption | omega) w _ _) ml_L_201 ⟨Nat.le_of_ble_eq_true rfl, Nat.le_of_ble_eq_true rfl⟩ ⟨by show cells + 0 + 1 ≤ 665281; omega, by show slots + 0 + 6 ≤ 7105636; omega⟩ hl (Nat.le_of_ble_eq_true rfl) rfl dL_law_676 (fun H locs G => ?_)
    refine lv_istore (lv' := [(5, .int (iZ (1))), (0, .ref t), (1, .ref o), (2, .ref u), (3, .ref w), (4, .int (iZ (x)))]) C.1 C.2.1 dL_law_679 hl (by decide) rfl (fun ls hl => ?_)
    refine lv_aload_n C.1 C.2.1 dL_law_681 rfl (lv_at hl 3 rfl) ?_
    refine lv_aload_n C.1 C.2.1 dL_law_682 rfl (lv_at hl 1 rfl) ?_
    refine lv_iload C.1 C.2.1 dL_law_683 (lv_at hl 5 rfl) ?_
    refine z_iconst C dL_law_685 ?_
    refine z_iadd C dL_law_686 ?_
    refine zd_ld C Z G q1 (x.toNat + 1) e1 (by omega) (by omega) dL_law_687 ?_
    refine lv_aload_n C.1 C.2.1 dL_law_688 rfl (lv_at hl 1 rfl) ?_
    refine lv_iload C.1 C.2.1 dL_law_689 (lv_at hl 5 rfl) ?_
    refine z_iconst C dL_law_691 ?_
    refine z_iadd C dL_law_692 ?_
    refine zd_ld C Z G q2 (x.toNat + 2) e2 (by omega) (by omega) dL_law_693 ?_
    refine lv_aload_n C.1 C.2.1 dL_law_694 rfl (lv_at hl 1 rfl) ?_
    refine lv_iload C.1 C.2.1 dL_law_695 (lv_at hl 5 rfl) ?_
    refine z_iconst C dL_law_697 ?_
    refine z_iadd C dL_law_698 ?_
    refine zd_ld C Z G q3 (x.toNat + 3) e3 (by omega) (by omega) dL_law_699 ?_
    refine zd_M (as := [.int (iZ (q1)), .int (iZ (q2)), .int (iZ (q3))]) C Y G (c_X5_times_bad1 l D cJ u v _ _ _ _ _ (q1) (q2) (q3) (by first | assumption | omega) (by first | assumption | omega) (by first | assumption | omega) (by first | assumption | omega)) ml_L_204 rfl ⟨Nat.le_of_ble_eq_true rfl, Nat.le_of_ble_eq_true rfl⟩ ⟨by show cells + 1 + 0 ≤ 665281; omega, by show slots + 6 + 0 ≤ 7105636; omega⟩ hl (Nat.le_of_ble_eq_true rfl) rfl dL_law_700 (fun y9 H locs hy9 G => ?_)
    subst hy9
    refine lv_istore (lv' := [(6, _), (5, .int (iZ (1))), (0, .ref t), (1, .ref o), (2, .ref u), (3, .ref w), (4, .int (iZ (x)))]) C.1 C.2.1 dL_law_703 hl (by decide) rfl (fun ls hl => ?_)
    refine lv_goto (tgt := 2200) C.1 C.2.1 dL_law_705 (by decide) ?_
    exact kk _ _ _ _ _ _ _ _ _ _ _ _ G (by omega) (by omega) (lv_sub hl [2, 3, 4, 5, 6] rfl)
set_option maxHeartbeats 4000000 in
set_option maxRecDepth 100000 in
theorem lk_9 (hlq : l.stackTraces = false) (C : CallFix p m c0 cL_law 7 s args T0 RL) (Z : zLw D cB t N g s) (Y : zAd o a u v w s) {c : Nat → Nat} {ac re kn : Int32} {th : Int} {n : Int64} {sv : Value} {H : Heap} {locs : List Loc} {ls : Array Slot} {cells slots : Nat} (G : zG D cJ o a u v w c [.int ac, .int re, .int kn] c [.int (iZ th), .int ac, .int re, .int kn] n sv s H locs) (x : Int) (hx : 0 ≤ x ∧ x + 5 ≤ (N : Int)) (hf : cells + 150 ≤ 665281 ∧ slots + 75000 ≤ 7105636) (hl : lv_has ls 7 [(0, .ref t), (1, .ref o), (2, .ref u), (3, .ref w), (4, .int (iZ (x)))])
    (kk : zNx p l e s m args below meth c0 D cJ t o a u v w x cells slots Qw 2200) : W p l e room_1 s m args below meth c0 H locs cells slots Qw (F0 m 708 ls []) := by
  have hc := G.1.2.2.2
  obtain ⟨q1, e1⟩ : ∃ z, g (x.toNat + 1) = z := ⟨_, rfl⟩
  have r1 : -2147483648 ≤ q1 ∧ q1 ≤ 2147483647 := e1 ▸ Z.2.2.2.2.2.1 _
  obtain ⟨q2, e2⟩ : ∃ z, g (x.toNat + 2) = z := ⟨_, rfl⟩
  have r2 : -2147483648 ≤ q2 ∧ q2 ≤ 2147483647 := e2 ▸ Z.2.2.2.2.2.1 _
  by_cases hcel : (0 ≤ q1 ∧ q1 ≤ 5) ∧ (0 ≤ q2 ∧ q2 ≤ 5)
  · skip
    refine lv_aload_n C.1 C.2.1 dL_law_708 rfl (lv_at hl 1 rfl) ?_
    refine lv_aload_n C.1 C.2.1 dL_law_709 rfl (lv_at hl 0 rfl) ?_
    refine lv_iload C.1 C.2.1 dL_law_710 (lv_at hl 4 rfl) ?_
    refine z_iconst C dL_law_712 ?_
    refine z_iadd C dL_law_713 ?_
    refine zd_ld C Z G q1 (x.toNat + 1) e1 (by omega) (by omega) dL_law_714 ?_
    refine lv_aload_n C.1 C.2.1 dL_law_715 rfl (lv_at hl 0 rfl) ?_
    refine lv_iload C.1 C.2.1 dL_law_716 (lv_at hl 4 rfl) ?_
    refine z_iconst C dL_law_718 ?_
    refine z_iadd C dL_law_719 ?_
    refine zd_ld C Z G q2 (x.toNat + 2) e2 (by omega) (by omega) dL_law_720 ?_
    refine lv_aload_n C.1 C.2.1 dL_law_721 rfl (lv_at hl 3 rfl) ?_
    refine zd_W (as := [.ref o, .int (iZ (q1)), .int (iZ (q2)), .ref w]) C Z Y G (c_L_square l D cJ o a _ _ _ _ (q1) (q2) (by first | assumption | omega) (by first | assumption | omega) w _ _) ml_L_205 ⟨Nat.le_of_ble_eq_true rfl, Nat.le_of_ble_eq_true rfl⟩ ⟨by show cells + 0 + 0 ≤ 665281; omega, by show slots + 0 + 0 ≤ 7105636; omega⟩ hl (Nat.le_of_ble_eq_true rfl) rfl dL_law_722 (fun H locs G => ?_)
    refine lv_istore (lv' := [(5, .int (iZ (0))), (0, .ref t), (1, .ref o), (2, .ref u), (3, .ref w), (4, .int (iZ (x)))]) C.1 C.2.1 dL_law_725 hl (by decide) rfl (fun ls hl => ?_)
    refine lv_aload_n C.1 C.2.1 dL_law_727 rfl (lv_at hl 3 rfl) ?_
    refine lv_aload_n C.1 C.2.1 dL_law_728 rfl (lv_at hl 1 rfl) ?_
    refine lv_iload C.1 C.2.1 dL_law_729 (lv_at hl 5 rfl) ?_
    refine z_iconst C dL_law_731 ?_
    refine z_iadd C dL_law_732 ?_
    refine zd_ld C Z G q1 (x.toNat + 1) e1 (by omega) (by omega) dL_law_733 ?_
    refine lv_aload_n C.1 C.2.1 dL_law_734 rfl (lv_at hl 1 rfl) ?_
    refine lv_iload C.1 C.2.1 dL_law_735 (lv_at hl 5 rfl) ?_
    refine z_iconst C dL_law_737 ?_
    refine z_iadd C dL_law_738 ?_
    refine zd_ld C Z G q2 (x.toNat + 2) e2 (by omega) (by omega) dL_law_739 ?_
    refine zd_M (as := [.int (iZ (q1)), .int (iZ (q2))]) C Y G (c_X5_square l D cJ u v _ _ _ _ _ (q1) (q2) (by first | assumption | omega) (by first | assumption | omega)) ml_L_207 rfl ⟨Nat.le_of_ble_eq_true rfl, Nat.le_of_ble_eq_true rfl⟩ ⟨by show cells + 0 + 0 ≤ 665281; omega, by show slots + 0 + 0 ≤ 7105636; omega⟩ hl (Nat.le_of_ble_eq_true rfl) rfl dL_law_740 (fun y9 H locs hy9 G => ?_)
    subst hy9
    refine lv_istore (lv' := [(6, _), (5, .int (iZ (0))), (0, .ref t), (1, .ref o), (2, .ref u), (3, .ref w), (4, .int (iZ (x)))]) C.1 C.2.1 dL_law_743 hl (by decide) rfl (fun ls hl => ?_)
    refine lv_goto (tgt := 2200) C.1 C.2.1 dL_law_745 (by decide) ?_
    exact kk _ _ _ _ _ _ _ _ _ _ _ _ G (by omega) (by omega) (lv_sub hl [2, 3, 4, 5, 6] rfl)
  · skip
    refine lv_aload_n C.1 C.2.1 dL_law_708 rfl (lv_at hl 1 rfl) ?_
    refine lv_aload_n C.1 C.2.1 dL_law_709 rfl (lv_at hl 0 rfl) ?_
    refine lv_iload C.1 C.2.1 dL_law_710 (lv_at hl 4 rfl) ?_
    refine z_iconst C dL_law_712 ?_
    refine z_iadd C dL_law_713 ?_
    refine zd_ld C Z G q1 (x.toNat + 1) e1 (by omega) (by omega) dL_law_714 ?_
    refine lv_aload_n C.1 C.2.1 dL_law_715 rfl (lv_at hl 0 rfl) ?_
    refine lv_iload C.1 C.2.1 dL_law_716 (lv_at hl 4 rfl) ?_
    refine z_iconst C dL_law_718 ?_
    refine z_iadd C dL_law_719 ?_
    refine zd_ld C Z G q2 (x.toNat + 2) e2 (by omega) (by omega) dL_law_720 ?_
    refine lv_aload_n C.1 C.2.1 dL_law_721 rfl (lv_at hl 3 rfl) ?_
    refine zd_W (as := [.ref o, .int (iZ (q1)), .int (iZ (q2)), .ref w]) C Z Y G (c_L_square_badc l hlq D cJ o a _ _ _ _ (q1) (q2) (by first | assumption | omega) (by first | assumption | omega) (by first | assumption | omega) w _ _) ml_L_205 ⟨Nat.le_of_ble_eq_true rfl, Nat.le_of_ble_eq_true rfl⟩ ⟨by show cells + 0 + 1 ≤ 665281; omega, by show slots + 0 + 6 ≤ 7105636; omega⟩ hl (Nat.le_of_ble_eq_true rfl) rfl dL_law_722 (fun H locs G => ?_)
    refine lv_istore (lv' := [(5, .int (iZ (1))), (0, .ref t), (1, .ref o), (2, .ref u), (3, .ref w), (4, .int (iZ (x)))]) C.1 C.2.1 dL_law_725 hl (by decide) rfl (fun ls hl => ?_)
    refine lv_aload_n C.1 C.2.1 dL_law_727 rfl (lv_at hl 3 rfl) ?_
    refine lv_aload_n C.1 C.2.1 dL_law_728 rfl (lv_at hl 1 rfl) ?_
    refine lv_iload C.1 C.2.1 dL_law_729 (lv_at hl 5 rfl) ?_
    refine z_iconst C dL_law_731 ?_
    refine z_iadd C dL_law_732 ?_
    refine zd_ld C Z G q1 (x.toNat + 1) e1 (by omega) (by omega) dL_law_733 ?_
    refine lv_aload_n C.1 C.2.1 dL_law_734 rfl (lv_at hl 1 rfl) ?_
    refine lv_iload C.1 C.2.1 dL_law_735 (lv_at hl 5 rfl) ?_
    refine z_iconst C dL_law_737 ?_
    refine z_iadd C dL_law_738 ?_
    refine zd_ld C Z G q2 (x.toNat + 2) e2 (by omega) (by omega) dL_law_739 ?_
    refine zd_M (as := [.int (iZ (q1)), .int (iZ (q2))]) C Y G (c_X5_square_bad1 l D cJ u v _ _ _ _ _ (q1) (q2) (by first | assumption | omega) (by first | assumption | omega) (by first | assumption | omega)) ml_L_207 rfl ⟨Nat.le_of_ble_eq_true rfl, Nat.le_of_ble_eq_true rfl⟩ ⟨by show cells + 1 + 0 ≤ 665281; omega, by show slots + 6 + 0 ≤ 7105636; omega⟩ hl (Nat.le_of_ble_eq_true rfl) rfl dL_law_740 (fun y9 H locs hy9 G => ?_)
    subst hy9
    refine lv_istore (lv' := [(6, _), (5, .int (iZ (1))), (0, .ref t), (1, .ref o), (2, .ref u), (3, .ref w), (4, .int (iZ (x)))]) C.1 C.2.1 dL_law_743 hl (by decide) rfl (fun ls hl => ?_)
    refine lv_goto (tgt := 2200) C.1 C.2.1 dL_law_745 (by decide) ?_
    exact kk _ _ _ _ _ _ _ _ _ _ _ _ G (by omega) (by omega) (lv_sub hl [2, 3, 4, 5, 6] rfl)
set_option maxHeartbeats 4000000 in
set_option maxRecDepth 100000 in
theorem lk_10 (hlq : l.stackTraces = false) (C : CallFix p m c0 cL_law 7 s args T0 RL) (Z : zLw D cB t N g s) (Y : zAd o a u v w s) {c : Nat → Nat} {ac re kn : Int32} {th : Int} {n : Int64} {sv : Value} {H : Heap} {locs : List Loc} {ls : Array Slot} {cells slots : Nat} (G : zG D cJ o a u v w c [.int ac, .int re, .int kn] c [.int (iZ th), .int ac, .int re, .int kn] n sv s H locs) (x : Int) (hx : 0 ≤ x ∧ x + 5 ≤ (N : Int)) (hf : cells + 150 ≤ 665281 ∧ slots + 75000 ≤ 7105636) (hl : lv_has ls 7 [(0, .ref t), (1, .ref o), (2, .ref u), (3, .ref w), (4, .int (iZ (x)))])
    (kk : zNx p l e s m args below meth c0 D cJ t o a u v w x cells slots Qw 2200) : W p l e room_1 s m args below meth c0 H locs cells slots Qw (F0 m 748 ls []) := by
  have hc := G.1.2.2.2
  obtain ⟨q1, e1⟩ : ∃ z, g (x.toNat + 1) = z := ⟨_, rfl⟩
  have r1 : -2147483648 ≤ q1 ∧ q1 ≤ 2147483647 := e1 ▸ Z.2.2.2.2.2.1 _
  obtain ⟨q2, e2⟩ : ∃ z, g (x.toNat + 2) = z := ⟨_, rfl⟩
  have r2 : -2147483648 ≤ q2 ∧ q2 ≤ 2147483647 := e2 ▸ Z.2.2.2.2.2.1 _
  obtain ⟨q3, e3⟩ : ∃ z, g (x.toNat + 3) = z := ⟨_, rfl⟩
  have r3 : -2147483648 ≤ q3 ∧ q3 ≤ 2147483647 := e3 ▸ Z.2.2.2.2.2.1 _
  by_cases hcel : (0 ≤ q1 ∧ q1 ≤ 5) ∧ (0 ≤ q3 ∧ q3 ≤ 5)
  · skip
    by_cases hrng : (-32 ≤ q2 ∧ q2 ≤ 32)
    · skip
      refine lv_aload_n C.1 C.2.1 dL_law_748 rfl (lv_at hl 1 rfl) ?_
      refine lv_aload_n C.1 C.2.1 dL_law_749 rfl (lv_at hl 0 rfl) ?_
      refine lv_iload C.1 C.2.1 dL_law_750 (lv_at hl 4 rfl) ?_
      refine z_iconst C dL_law_752 ?_
      refine z_iadd C dL_law_753 ?_
      refine zd_ld C Z G q1 (x.toNat + 1) e1 (by omega) (by omega) dL_law_754 ?_
      refine lv_aload_n C.1 C.2.1 dL_law_755 rfl (lv_at hl 0 rfl) ?_
      refine lv_iload C.1 C.2.1 dL_law_756 (lv_at hl 4 rfl) ?_
      refine z_iconst C dL_law_758 ?_
      refine z_iadd C dL_law_759 ?_
      refine zd_ld C Z G q2 (x.toNat + 2) e2 (by omega) (by omega) dL_law_760 ?_
      refine lv_aload_n C.1 C.2.1 dL_law_761 rfl (lv_at hl 0 rfl) ?_
      refine lv_iload C.1 C.2.1 dL_law_762 (lv_at hl 4 rfl) ?_
      refine z_iconst C dL_law_764 ?_
      refine z_iadd C dL_law_765 ?_
      refine zd_ld C Z G q3 (x.toNat + 3) e3 (by omega) (by omega) dL_law_766 ?_
      refine lv_aload_n C.1 C.2.1 dL_law_767 rfl (lv_at hl 3 rfl) ?_
      refine zd_W (as := [.ref o, .int (iZ (q1)), .int (iZ (q2)), .int (iZ (q3)), .ref w]) C Z Y G (c_L_shift l D cJ o a _ _ _ _ (q1) (q2) (q3) (by first | assumption | omega) (by first | assumption | omega) (by first | assumption | omega) w _ _) ml_L_208 ⟨Nat.le_of_ble_eq_true rfl, Nat.le_of_ble_eq_true rfl⟩ ⟨by show cells + 0 + 0 ≤ 665281; omega, by show slots + 0 + 0 ≤ 7105636; omega⟩ hl (Nat.le_of_ble_eq_true rfl) rfl dL_law_768 (fun H locs G => ?_)
      refine lv_istore (lv' := [(5, .int (iZ (0))), (0, .ref t), (1, .ref o), (2, .ref u), (3, .ref w), (4, .int (iZ (x)))]) C.1 C.2.1 dL_law_771 hl (by decide) rfl (fun ls hl => ?_)
      refine lv_aload_n C.1 C.2.1 dL_law_773 rfl (lv_at hl 3 rfl) ?_
      refine lv_aload_n C.1 C.2.1 dL_law_774 rfl (lv_at hl 1 rfl) ?_
      refine lv_iload C.1 C.2.1 dL_law_775 (lv_at hl 5 rfl) ?_
      refine z_iconst C dL_law_777 ?_
      refine z_iadd C dL_law_778 ?_
      refine zd_ld C Z G q1 (x.toNat + 1) e1 (by omega) (by omega) dL_law_779 ?_
      refine lv_aload_n C.1 C.2.1 dL_law_780 rfl (lv_at hl 1 rfl) ?_
      refine lv_iload C.1 C.2.1 dL_law_781 (lv_at hl 5 rfl) ?_
      refine z_iconst C dL_law_783 ?_
      refine z_iadd C dL_law_784 ?_
      refine zd_ld C Z G q2 (x.toNat + 2) e2 (by omega) (by omega) dL_law_785 ?_
      refine lv_aload_n C.1 C.2.1 dL_law_786 rfl (lv_at hl 1 rfl) ?_
      refine lv_iload C.1 C.2.1 dL_law_787 (lv_at hl 5 rfl) ?_
      refine z_iconst C dL_law_789 ?_
      refine z_iadd C dL_law_790 ?_
      refine zd_ld C Z G q3 (x.toNat + 3) e3 (by omega) (by omega) dL_law_791 ?_
      refine zd_M (as := [.int (iZ (q1)), .int (iZ (q2)), .int (iZ (q3))]) C Y G (c_X5_shift l D cJ u v _ _ _ _ _ (q1) (q2) (q3) (by first | assumption | omega) (by first | assumption | omega) (by first | assumption | omega)) ml_L_210 rfl ⟨Nat.le_of_ble_eq_true rfl, Nat.le_of_ble_eq_true rfl⟩ ⟨by show cells + 0 + 0 ≤ 665281; omega, by show slots + 0 + 0 ≤ 7105636; omega⟩ hl (Nat.le_of_ble_eq_true rfl) rfl dL_law_792 (fun y9 H locs hy9 G => ?_)
      subst hy9
      refine lv_istore (lv' := [(6, _), (5, .int (iZ (0))), (0, .ref t), (1, .ref o), (2, .ref u), (3, .ref w), (4, .int (iZ (x)))]) C.1 C.2.1 dL_law_795 hl (by decide) rfl (fun ls hl => ?_)
      refine lv_goto (tgt := 2200) C.1 C.2.1 dL_law_797 (by decide) ?_
      exact kk _ _ _ _ _ _ _ _ _ _ _ _ G (by omega) (by omega) (lv_sub hl [2, 3, 4, 5, 6] rfl)
    · skip
      refine lv_aload_n C.1 C.2.1 dL_law_748 rfl (lv_at hl 1 rfl) ?_
      refine lv_aload_n C.1 C.2.1 dL_law_749 rfl (lv_at hl 0 rfl) ?_
      refine lv_iload C.1 C.2.1 dL_law_750 (lv_at hl 4 rfl) ?_
      refine z_iconst C dL_law_752 ?_
      refine z_iadd C dL_law_753 ?_
      refine zd_ld C Z G q1 (x.toNat + 1) e1 (by omega) (by omega) dL_law_754 ?_
      refine lv_aload_n C.1 C.2.1 dL_law_755 rfl (lv_at hl 0 rfl) ?_
      refine lv_iload C.1 C.2.1 dL_law_756 (lv_at hl 4 rfl) ?_
      refine z_iconst C dL_law_758 ?_
      refine z_iadd C dL_law_759 ?_
      refine zd_ld C Z G q2 (x.toNat + 2) e2 (by omega) (by omega) dL_law_760 ?_
      refine lv_aload_n C.1 C.2.1 dL_law_761 rfl (lv_at hl 0 rfl) ?_
      refine lv_iload C.1 C.2.1 dL_law_762 (lv_at hl 4 rfl) ?_
      refine z_iconst C dL_law_764 ?_
      refine z_iadd C dL_law_765 ?_
      refine zd_ld C Z G q3 (x.toNat + 3) e3 (by omega) (by omega) dL_law_766 ?_
      refine lv_aload_n C.1 C.2.1 dL_law_767 rfl (lv_at hl 3 rfl) ?_
      refine zd_W (as := [.ref o, .int (iZ (q1)), .int (iZ (q2)), .int (iZ (q3)), .ref w]) C Z Y G (c_L_shift_badr l hlq D cJ o a _ _ _ _ (q1) (q2) (q3) (by first | assumption | omega) (by first | assumption | omega) (by first | assumption | omega) (by first | assumption | omega) (by first | assumption | omega) (by first | assumption | omega) w _ _) ml_L_208 ⟨Nat.le_of_ble_eq_true rfl, Nat.le_of_ble_eq_true rfl⟩ ⟨by show cells + 0 + 1 ≤ 665281; omega, by show slots + 0 + 6 ≤ 7105636; omega⟩ hl (Nat.le_of_ble_eq_true rfl) rfl dL_law_768 (fun H locs G => ?_)
      refine lv_istore (lv' := [(5, .int (iZ (2))), (0, .ref t), (1, .ref o), (2, .ref u), (3, .ref w), (4, .int (iZ (x)))]) C.1 C.2.1 dL_law_771 hl (by decide) rfl (fun ls hl => ?_)
      refine lv_aload_n C.1 C.2.1 dL_law_773 rfl (lv_at hl 3 rfl) ?_
      refine lv_aload_n C.1 C.2.1 dL_law_774 rfl (lv_at hl 1 rfl) ?_
      refine lv_iload C.1 C.2.1 dL_law_775 (lv_at hl 5 rfl) ?_
      refine z_iconst C dL_law_777 ?_
      refine z_iadd C dL_law_778 ?_
      refine zd_ld C Z G q1 (x.toNat + 1) e1 (by omega) (by omega) dL_law_779 ?_
      refine lv_aload_n C.1 C.2.1 dL_law_780 rfl (lv_at hl 1 rfl) ?_
      refine lv_iload C.1 C.2.1 dL_law_781 (lv_at hl 5 rfl) ?_
      refine z_iconst C dL_law_783 ?_
      refine z_iadd C dL_law_784 ?_
      refine zd_ld C Z G q2 (x.toNat + 2) e2 (by omega) (by omega) dL_law_785 ?_
      refine lv_aload_n C.1 C.2.1 dL_law_786 rfl (lv_at hl 1 rfl) ?_
      refine lv_iload C.1 C.2.1 dL_law_787 (lv_at hl 5 rfl) ?_
      refine z_iconst C dL_law_789 ?_
      refine z_iadd C dL_law_790 ?_
      refine zd_ld C Z G q3 (x.toNat + 3) e3 (by omega) (by omega) dL_law_791 ?_
      refine zd_M (as := [.int (iZ (q1)), .int (iZ (q2)), .int (iZ (q3))]) C Y G (c_X5_shift_bad2 l D cJ u v _ _ _ _ _ (q1) (q2) (q3) (by first | assumption | omega) (by first | assumption | omega) (by first | assumption | omega) (by first | assumption | omega) (by first | assumption | omega)) ml_L_210 rfl ⟨Nat.le_of_ble_eq_true rfl, Nat.le_of_ble_eq_true rfl⟩ ⟨by show cells + 1 + 0 ≤ 665281; omega, by show slots + 6 + 0 ≤ 7105636; omega⟩ hl (Nat.le_of_ble_eq_true rfl) rfl dL_law_792 (fun y9 H locs hy9 G => ?_)
      subst hy9
      refine lv_istore (lv' := [(6, _), (5, .int (iZ (2))), (0, .ref t), (1, .ref o), (2, .ref u), (3, .ref w), (4, .int (iZ (x)))]) C.1 C.2.1 dL_law_795 hl (by decide) rfl (fun ls hl => ?_)
      refine lv_goto (tgt := 2200) C.1 C.2.1 dL_law_797 (by decide) ?_
      exact kk _ _ _ _ _ _ _ _ _ _ _ _ G (by omega) (by omega) (lv_sub hl [2, 3, 4, 5, 6] rfl)
  · skip
    refine lv_aload_n C.1 C.2.1 dL_law_748 rfl (lv_at hl 1 rfl) ?_
    refine lv_aload_n C.1 C.2.1 dL_law_749 rfl (lv_at hl 0 rfl) ?_
    refine lv_iload C.1 C.2.1 dL_law_750 (lv_at hl 4 rfl) ?_
    refine z_iconst C dL_law_752 ?_
    refine z_iadd C dL_law_753 ?_
    refine zd_ld C Z G q1 (x.toNat + 1) e1 (by omega) (by omega) dL_law_754 ?_
    refine lv_aload_n C.1 C.2.1 dL_law_755 rfl (lv_at hl 0 rfl) ?_
    refine lv_iload C.1 C.2.1 dL_law_756 (lv_at hl 4 rfl) ?_
    refine z_iconst C dL_law_758 ?_
    refine z_iadd C dL_law_759 ?_
    refine zd_ld C Z G q2 (x.toNat + 2) e2 (by omega) (by omega) dL_law_760 ?_
    refine lv_aload_n C.1 C.2.1 dL_law_761 rfl (lv_at hl 0 rfl) ?_
    refine lv_iload C.1 C.2.1 dL_law_762 (lv_at hl 4 rfl) ?_
    refine z_iconst C dL_law_764 ?_
    refine z_iadd C dL_law_765 ?_
    refine zd_ld C Z G q3 (x.toNat + 3) e3 (by omega) (by omega) dL_law_766 ?_
    refine lv_aload_n C.1 C.2.1 dL_law_767 rfl (lv_at hl 3 rfl) ?_
    refine zd_W (as := [.ref o, .int (iZ (q1)), .int (iZ (q2)), .int (iZ (q3)), .ref w]) C Z Y G (c_L_shift_badc l hlq D cJ o a _ _ _ _ (q1) (q2) (q3) (by first | assumption | omega) (by first | assumption | omega) (by first | assumption | omega) (by first | assumption | omega) w _ _) ml_L_208 ⟨Nat.le_of_ble_eq_true rfl, Nat.le_of_ble_eq_true rfl⟩ ⟨by show cells + 0 + 1 ≤ 665281; omega, by show slots + 0 + 6 ≤ 7105636; omega⟩ hl (Nat.le_of_ble_eq_true rfl) rfl dL_law_768 (fun H locs G => ?_)
    refine lv_istore (lv' := [(5, .int (iZ (1))), (0, .ref t), (1, .ref o), (2, .ref u), (3, .ref w), (4, .int (iZ (x)))]) C.1 C.2.1 dL_law_771 hl (by decide) rfl (fun ls hl => ?_)
    refine lv_aload_n C.1 C.2.1 dL_law_773 rfl (lv_at hl 3 rfl) ?_
    refine lv_aload_n C.1 C.2.1 dL_law_774 rfl (lv_at hl 1 rfl) ?_
    refine lv_iload C.1 C.2.1 dL_law_775 (lv_at hl 5 rfl) ?_
    refine z_iconst C dL_law_777 ?_
    refine z_iadd C dL_law_778 ?_
    refine zd_ld C Z G q1 (x.toNat + 1) e1 (by omega) (by omega) dL_law_779 ?_
    refine lv_aload_n C.1 C.2.1 dL_law_780 rfl (lv_at hl 1 rfl) ?_
    refine lv_iload C.1 C.2.1 dL_law_781 (lv_at hl 5 rfl) ?_
    refine z_iconst C dL_law_783 ?_
    refine z_iadd C dL_law_784 ?_
    refine zd_ld C Z G q2 (x.toNat + 2) e2 (by omega) (by omega) dL_law_785 ?_
    refine lv_aload_n C.1 C.2.1 dL_law_786 rfl (lv_at hl 1 rfl) ?_
    refine lv_iload C.1 C.2.1 dL_law_787 (lv_at hl 5 rfl) ?_
    refine z_iconst C dL_law_789 ?_
    refine z_iadd C dL_law_790 ?_
    refine zd_ld C Z G q3 (x.toNat + 3) e3 (by omega) (by omega) dL_law_791 ?_
    refine zd_M (as := [.int (iZ (q1)), .int (iZ (q2)), .int (iZ (q3))]) C Y G (c_X5_shift_bad1 l D cJ u v _ _ _ _ _ (q1) (q2) (q3) (by first | assumption | omega) (by first | assumption | omega) (by first | assumption | omega) (by first | assumption | omega)) ml_L_210 rfl ⟨Nat.le_of_ble_eq_true rfl, Nat.le_of_ble_eq_true rfl⟩ ⟨by show cells + 1 + 0 ≤ 665281; omega, by show slots + 6 + 0 ≤ 7105636; omega⟩ hl (Nat.le_of_ble_eq_true rfl) rfl dL_law_792 (fun y9 H locs hy9 G => ?_)
    subst hy9
    refine lv_istore (lv' := [(6, _), (5, .int (iZ (1))), (0, .ref t), (1, .ref o), (2, .ref u), (3, .ref w), (4, .int (iZ (x)))]) C.1 C.2.1 dL_law_795 hl (by decide) rfl (fun ls hl => ?_)
    refine lv_goto (tgt := 2200) C.1 C.2.1 dL_law_797 (by decide) ?_
    exact kk _ _ _ _ _ _ _ _ _ _ _ _ G (by omega) (by omega) (lv_sub hl [2, 3, 4, 5, 6] rfl)
set_option maxHeartbeats 4000000 in
set_option maxRecDepth 100000 in
theorem lk_11 (hlq : l.stackTraces = false) (C : CallFix p m c0 cL_law 7 s args T0 RL) (Z : zLw D cB t N g s) (Y : zAd o a u v w s) {c : Nat → Nat} {ac re kn : Int32} {th : Int} {n : Int64} {sv : Value} {H : Heap} {locs : List Loc} {ls : Array Slot} {cells slots : Nat} (G : zG D cJ o a u v w c [.int ac, .int re, .int kn] c [.int (iZ th), .int ac, .int re, .int kn] n sv s H locs) (x : Int) (hx : 0 ≤ x ∧ x + 5 ≤ (N : Int)) (hf : cells + 150 ≤ 665281 ∧ slots + 75000 ≤ 7105636) (hl : lv_has ls 7 [(0, .ref t), (1, .ref o), (2, .ref u), (3, .ref w), (4, .int (iZ (x)))])
    (kk : zNx p l e s m args below meth c0 D cJ t o a u v w x cells slots Qw 2200) : W p l e room_1 s m args below meth c0 H locs cells slots Qw (F0 m 800 ls []) := by
  have hc := G.1.2.2.2
  obtain ⟨q1, e1⟩ : ∃ z, g (x.toNat + 1) = z := ⟨_, rfl⟩
  have r1 : -2147483648 ≤ q1 ∧ q1 ≤ 2147483647 := e1 ▸ Z.2.2.2.2.2.1 _
  obtain ⟨q2, e2⟩ : ∃ z, g (x.toNat + 2) = z := ⟨_, rfl⟩
  have r2 : -2147483648 ≤ q2 ∧ q2 ≤ 2147483647 := e2 ▸ Z.2.2.2.2.2.1 _
  obtain ⟨q3, e3⟩ : ∃ z, g (x.toNat + 3) = z := ⟨_, rfl⟩
  have r3 : -2147483648 ≤ q3 ∧ q3 ≤ 2147483647 := e3 ▸ Z.2.2.2.2.2.1 _
  by_cases hcel : (0 ≤ q1 ∧ q1 ≤ 5) ∧ (0 ≤ q2 ∧ q2 ≤ 5) ∧ (0 ≤ q3 ∧ q3 ≤ 5)
  · skip
    refine lv_aload_n C.1 C.2.1 dL_law_800 rfl (lv_at hl 1 rfl) ?_
    refine lv_aload_n C.1 C.2.1 dL_law_801 rfl (lv_at hl 0 rfl) ?_
    refine lv_iload C.1 C.2.1 dL_law_802 (lv_at hl 4 rfl) ?_
    refine z_iconst C dL_law_804 ?_
    refine z_iadd C dL_law_805 ?_
    refine zd_ld C Z G q1 (x.toNat + 1) e1 (by omega) (by omega) dL_law_806 ?_
    refine lv_aload_n C.1 C.2.1 dL_law_807 rfl (lv_at hl 0 rfl) ?_
    refine lv_iload C.1 C.2.1 dL_law_808 (lv_at hl 4 rfl) ?_
    refine z_iconst C dL_law_810 ?_
    refine z_iadd C dL_law_811 ?_
    refine zd_ld C Z G q2 (x.toNat + 2) e2 (by omega) (by omega) dL_law_812 ?_
    refine lv_aload_n C.1 C.2.1 dL_law_813 rfl (lv_at hl 0 rfl) ?_
    refine lv_iload C.1 C.2.1 dL_law_814 (lv_at hl 4 rfl) ?_
    refine z_iconst C dL_law_816 ?_
    refine z_iadd C dL_law_817 ?_
    refine zd_ld C Z G q3 (x.toNat + 3) e3 (by omega) (by omega) dL_law_818 ?_
    refine lv_aload_n C.1 C.2.1 dL_law_819 rfl (lv_at hl 3 rfl) ?_
    refine zd_W (as := [.ref o, .int (iZ (q1)), .int (iZ (q2)), .int (iZ (q3)), .ref w]) C Z Y G (c_L_quotient l D cJ o a _ _ _ _ (q1) (q2) (q3) (by first | assumption | omega) (by first | assumption | omega) (by first | assumption | omega) w _ _) ml_L_211 ⟨Nat.le_of_ble_eq_true rfl, Nat.le_of_ble_eq_true rfl⟩ ⟨by show cells + 0 + 0 ≤ 665281; omega, by show slots + 0 + 0 ≤ 7105636; omega⟩ hl (Nat.le_of_ble_eq_true rfl) rfl dL_law_820 (fun H locs G => ?_)
    refine lv_istore (lv' := [(5, .int (iZ (0))), (0, .ref t), (1, .ref o), (2, .ref u), (3, .ref w), (4, .int (iZ (x)))]) C.1 C.2.1 dL_law_823 hl (by decide) rfl (fun ls hl => ?_)
    refine lv_aload_n C.1 C.2.1 dL_law_825 rfl (lv_at hl 3 rfl) ?_
    refine lv_aload_n C.1 C.2.1 dL_law_826 rfl (lv_at hl 1 rfl) ?_
    refine lv_iload C.1 C.2.1 dL_law_827 (lv_at hl 5 rfl) ?_
    refine z_iconst C dL_law_829 ?_
    refine z_iadd C dL_law_830 ?_
    refine zd_ld C Z G q1 (x.toNat + 1) e1 (by omega) (by omega) dL_law_831 ?_
    refine lv_aload_n C.1 C.2.1 dL_law_832 rfl (lv_at hl 1 rfl) ?_
    refine lv_iload C.1 C.2.1 dL_law_833 (lv_at hl 5 rfl) ?_
    refine z_iconst C dL_law_835 ?_
    refine z_iadd C dL_law_836 ?_
    refine zd_ld C Z G q2 (x.toNat + 2) e2 (by omega) (by omega) dL_law_837 ?_
    refine lv_aload_n C.1 C.2.1 dL_law_838 rfl (lv_at hl 1 rfl) ?_
    refine lv_iload C.1 C.2.1 dL_law_839 (lv_at hl 5 rfl) ?_
    refine z_iconst C dL_law_841 ?_
    refine z_iadd C dL_law_842 ?_
    refine zd_ld C Z G q3 (x.toNat + 3) e3 (by omega) (by omega) dL_law_843 ?_
    refine zd_M (as := [.int (iZ (q1)), .int (iZ (q2)), .int (iZ (q3))]) C Y G (c_X5_quotient l D cJ u v _ _ _ _ _ (q1) (q2) (q3) (by first | assumption | omega) (by first | assumption | omega) (by first | assumption | omega)) ml_L_213 rfl ⟨Nat.le_of_ble_eq_true rfl, Nat.le_of_ble_eq_true rfl⟩ ⟨by show cells + 0 + 0 ≤ 665281; omega, by show slots + 0 + 0 ≤ 7105636; omega⟩ hl (Nat.le_of_ble_eq_true rfl) rfl dL_law_844 (fun y9 H locs hy9 G => ?_)
    subst hy9
    refine lv_istore (lv' := [(6, _), (5, .int (iZ (0))), (0, .ref t), (1, .ref o), (2, .ref u), (3, .ref w), (4, .int (iZ (x)))]) C.1 C.2.1 dL_law_847 hl (by decide) rfl (fun ls hl => ?_)
    refine lv_goto (tgt := 2200) C.1 C.2.1 dL_law_849 (by decide) ?_
    exact kk _ _ _ _ _ _ _ _ _ _ _ _ G (by omega) (by omega) (lv_sub hl [2, 3, 4, 5, 6] rfl)
  · skip
    refine lv_aload_n C.1 C.2.1 dL_law_800 rfl (lv_at hl 1 rfl) ?_
    refine lv_aload_n C.1 C.2.1 dL_law_801 rfl (lv_at hl 0 rfl) ?_
    refine lv_iload C.1 C.2.1 dL_law_802 (lv_at hl 4 rfl) ?_
    refine z_iconst C dL_law_804 ?_
    refine z_iadd C dL_law_805 ?_
    refine zd_ld C Z G q1 (x.toNat + 1) e1 (by omega) (by omega) dL_law_806 ?_
    refine lv_aload_n C.1 C.2.1 dL_law_807 rfl (lv_at hl 0 rfl) ?_
    refine lv_iload C.1 C.2.1 dL_law_808 (lv_at hl 4 rfl) ?_
    refine z_iconst C dL_law_810 ?_
    refine z_iadd C dL_law_811 ?_
    refine zd_ld C Z G q2 (x.toNat + 2) e2 (by omega) (by omega) dL_law_812 ?_
    refine lv_aload_n C.1 C.2.1 dL_law_813 rfl (lv_at hl 0 rfl) ?_
    refine lv_iload C.1 C.2.1 dL_law_814 (lv_at hl 4 rfl) ?_
    refine z_iconst C dL_law_816 ?_
    refine z_iadd C dL_law_817 ?_
    refine zd_ld C Z G q3 (x.toNat + 3) e3 (by omega) (by omega) dL_law_818 ?_
    refine lv_aload_n C.1 C.2.1 dL_law_819 rfl (lv_at hl 3 rfl) ?_
    refine zd_W (as := [.ref o, .int (iZ (q1)), .int (iZ (q2)), .int (iZ (q3)), .ref w]) C Z Y G (c_L_quotient_badc l hlq D cJ o a _ _ _ _ (q1) (q2) (q3) (by first | assumption | omega) (by first | assumption | omega) (by first | assumption | omega) (by first | assumption | omega) w _ _) ml_L_211 ⟨Nat.le_of_ble_eq_true rfl, Nat.le_of_ble_eq_true rfl⟩ ⟨by show cells + 0 + 1 ≤ 665281; omega, by show slots + 0 + 6 ≤ 7105636; omega⟩ hl (Nat.le_of_ble_eq_true rfl) rfl dL_law_820 (fun H locs G => ?_)
    refine lv_istore (lv' := [(5, .int (iZ (1))), (0, .ref t), (1, .ref o), (2, .ref u), (3, .ref w), (4, .int (iZ (x)))]) C.1 C.2.1 dL_law_823 hl (by decide) rfl (fun ls hl => ?_)
    refine lv_aload_n C.1 C.2.1 dL_law_825 rfl (lv_at hl 3 rfl) ?_
    refine lv_aload_n C.1 C.2.1 dL_law_826 rfl (lv_at hl 1 rfl) ?_
    refine lv_iload C.1 C.2.1 dL_law_827 (lv_at hl 5 rfl) ?_
    refine z_iconst C dL_law_829 ?_
    refine z_iadd C dL_law_830 ?_
    refine zd_ld C Z G q1 (x.toNat + 1) e1 (by omega) (by omega) dL_law_831 ?_
    refine lv_aload_n C.1 C.2.1 dL_law_832 rfl (lv_at hl 1 rfl) ?_
    refine lv_iload C.1 C.2.1 dL_law_833 (lv_at hl 5 rfl) ?_
    refine z_iconst C dL_law_835 ?_
    refine z_iadd C dL_law_836 ?_
    refine zd_ld C Z G q2 (x.toNat + 2) e2 (by omega) (by omega) dL_law_837 ?_
    refine lv_aload_n C.1 C.2.1 dL_law_838 rfl (lv_at hl 1 rfl) ?_
    refine lv_iload C.1 C.2.1 dL_law_839 (lv_at hl 5 rfl) ?_
    refine z_iconst C dL_law_841 ?_
    refine z_iadd C dL_law_842 ?_
    refine zd_ld C Z G q3 (x.toNat + 3) e3 (by omega) (by omega) dL_law_843 ?_
    refine zd_M (as := [.int (iZ (q1)), .int (iZ (q2)), .int (iZ (q3))]) C Y G (c_X5_quotient_bad1 l D cJ u v _ _ _ _ _ (q1) (q2) (q3) (by first | assumption | omega) (by first | assumption | omega) (by first | assumption | omega) (by first | assumption | omega)) ml_L_213 rfl ⟨Nat.le_of_ble_eq_true rfl, Nat.le_of_ble_eq_true rfl⟩ ⟨by show cells + 1 + 0 ≤ 665281; omega, by show slots + 6 + 0 ≤ 7105636; omega⟩ hl (Nat.le_of_ble_eq_true rfl) rfl dL_law_844 (fun y9 H locs hy9 G => ?_)
    subst hy9
    refine lv_istore (lv' := [(6, _), (5, .int (iZ (1))), (0, .ref t), (1, .ref o), (2, .ref u), (3, .ref w), (4, .int (iZ (x)))]) C.1 C.2.1 dL_law_847 hl (by decide) rfl (fun ls hl => ?_)
    refine lv_goto (tgt := 2200) C.1 C.2.1 dL_law_849 (by decide) ?_
    exact kk _ _ _ _ _ _ _ _ _ _ _ _ G (by omega) (by omega) (lv_sub hl [2, 3, 4, 5, 6] rfl)
set_option maxHeartbeats 4000000 in
set_option maxRecDepth 100000 in
theorem lk_12 (hlq : l.stackTraces = false) (C : CallFix p m c0 cL_law 7 s args T0 RL) (Z : zLw D cB t N g s) (Y : zAd o a u v w s) {c : Nat → Nat} {ac re kn : Int32} {th : Int} {n : Int64} {sv : Value} {H : Heap} {locs : List Loc} {ls : Array Slot} {cells slots : Nat} (G : zG D cJ o a u v w c [.int ac, .int re, .int kn] c [.int (iZ th), .int ac, .int re, .int kn] n sv s H locs) (x : Int) (hx : 0 ≤ x ∧ x + 5 ≤ (N : Int)) (hf : cells + 150 ≤ 665281 ∧ slots + 75000 ≤ 7105636) (hl : lv_has ls 7 [(0, .ref t), (1, .ref o), (2, .ref u), (3, .ref w), (4, .int (iZ (x)))])
    (kk : zNx p l e s m args below meth c0 D cJ t o a u v w x cells slots Qw 2200) : W p l e room_1 s m args below meth c0 H locs cells slots Qw (F0 m 852 ls []) := by
  have hc := G.1.2.2.2
  obtain ⟨q1, e1⟩ : ∃ z, g (x.toNat + 1) = z := ⟨_, rfl⟩
  have r1 : -2147483648 ≤ q1 ∧ q1 ≤ 2147483647 := e1 ▸ Z.2.2.2.2.2.1 _
  obtain ⟨q2, e2⟩ : ∃ z, g (x.toNat + 2) = z := ⟨_, rfl⟩
  have r2 : -2147483648 ≤ q2 ∧ q2 ≤ 2147483647 := e2 ▸ Z.2.2.2.2.2.1 _
  obtain ⟨q3, e3⟩ : ∃ z, g (x.toNat + 3) = z := ⟨_, rfl⟩
  have r3 : -2147483648 ≤ q3 ∧ q3 ≤ 2147483647 := e3 ▸ Z.2.2.2.2.2.1 _
  by_cases hcel : (0 ≤ q1 ∧ q1 ≤ 5) ∧ (0 ≤ q2 ∧ q2 ≤ 5) ∧ (0 ≤ q3 ∧ q3 ≤ 5)
  · skip
    refine lv_aload_n C.1 C.2.1 dL_law_852 rfl (lv_at hl 1 rfl) ?_
    refine lv_aload_n C.1 C.2.1 dL_law_853 rfl (lv_at hl 0 rfl) ?_
    refine lv_iload C.1 C.2.1 dL_law_854 (lv_at hl 4 rfl) ?_
    refine z_iconst C dL_law_856 ?_
    refine z_iadd C dL_law_857 ?_
    refine zd_ld C Z G q1 (x.toNat + 1) e1 (by omega) (by omega) dL_law_858 ?_
    refine lv_aload_n C.1 C.2.1 dL_law_859 rfl (lv_at hl 0 rfl) ?_
    refine lv_iload C.1 C.2.1 dL_law_860 (lv_at hl 4 rfl) ?_
    refine z_iconst C dL_law_862 ?_
    refine z_iadd C dL_law_863 ?_
    refine zd_ld C Z G q2 (x.toNat + 2) e2 (by omega) (by omega) dL_law_864 ?_
    refine lv_aload_n C.1 C.2.1 dL_law_865 rfl (lv_at hl 0 rfl) ?_
    refine lv_iload C.1 C.2.1 dL_law_866 (lv_at hl 4 rfl) ?_
    refine z_iconst C dL_law_868 ?_
    refine z_iadd C dL_law_869 ?_
    refine zd_ld C Z G q3 (x.toNat + 3) e3 (by omega) (by omega) dL_law_870 ?_
    refine lv_aload_n C.1 C.2.1 dL_law_871 rfl (lv_at hl 3 rfl) ?_
    refine zd_W (as := [.ref o, .int (iZ (q1)), .int (iZ (q2)), .int (iZ (q3)), .ref w]) C Z Y G (c_L_rest l D cJ o a _ _ _ _ (q1) (q2) (q3) (by first | assumption | omega) (by first | assumption | omega) (by first | assumption | omega) w _ _) ml_L_214 ⟨Nat.le_of_ble_eq_true rfl, Nat.le_of_ble_eq_true rfl⟩ ⟨by show cells + 0 + 0 ≤ 665281; omega, by show slots + 0 + 0 ≤ 7105636; omega⟩ hl (Nat.le_of_ble_eq_true rfl) rfl dL_law_872 (fun H locs G => ?_)
    refine lv_istore (lv' := [(5, .int (iZ (0))), (0, .ref t), (1, .ref o), (2, .ref u), (3, .ref w), (4, .int (iZ (x)))]) C.1 C.2.1 dL_law_875 hl (by decide) rfl (fun ls hl => ?_)
    refine lv_aload_n C.1 C.2.1 dL_law_877 rfl (lv_at hl 3 rfl) ?_
    refine lv_aload_n C.1 C.2.1 dL_law_878 rfl (lv_at hl 1 rfl) ?_
    refine lv_iload C.1 C.2.1 dL_law_879 (lv_at hl 5 rfl) ?_
    refine z_iconst C dL_law_881 ?_
    refine z_iadd C dL_law_882 ?_
    refine zd_ld C Z G q1 (x.toNat + 1) e1 (by omega) (by omega) dL_law_883 ?_
    refine lv_aload_n C.1 C.2.1 dL_law_884 rfl (lv_at hl 1 rfl) ?_
    refine lv_iload C.1 C.2.1 dL_law_885 (lv_at hl 5 rfl) ?_
    refine z_iconst C dL_law_887 ?_
    refine z_iadd C dL_law_888 ?_
    refine zd_ld C Z G q2 (x.toNat + 2) e2 (by omega) (by omega) dL_law_889 ?_
    refine lv_aload_n C.1 C.2.1 dL_law_890 rfl (lv_at hl 1 rfl) ?_
    refine lv_iload C.1 C.2.1 dL_law_891 (lv_at hl 5 rfl) ?_
    refine z_iconst C dL_law_893 ?_
    refine z_iadd C dL_law_894 ?_
    refine zd_ld C Z G q3 (x.toNat + 3) e3 (by omega) (by omega) dL_law_895 ?_
    refine zd_M (as := [.int (iZ (q1)), .int (iZ (q2)), .int (iZ (q3))]) C Y G (c_X5_rest l D cJ u v _ _ _ _ _ (q1) (q2) (q3) (by first | assumption | omega) (by first | assumption | omega) (by first | assumption | omega)) ml_L_216 rfl ⟨Nat.le_of_ble_eq_true rfl, Nat.le_of_ble_eq_true rfl⟩ ⟨by show cells + 0 + 0 ≤ 665281; omega, by show slots + 0 + 0 ≤ 7105636; omega⟩ hl (Nat.le_of_ble_eq_true rfl) rfl dL_law_896 (fun y9 H locs hy9 G => ?_)
    subst hy9
    refine lv_istore (lv' := [(6, _), (5, .int (iZ (0))), (0, .ref t), (1, .ref o), (2, .ref u), (3, .ref w), (4, .int (iZ (x)))]) C.1 C.2.1 dL_law_899 hl (by decide) rfl (fun ls hl => ?_)
    refine lv_goto (tgt := 2200) C.1 C.2.1 dL_law_901 (by decide) ?_
    exact kk _ _ _ _ _ _ _ _ _ _ _ _ G (by omega) (by omega) (lv_sub hl [2, 3, 4, 5, 6] rfl)
  · skip
    refine lv_aload_n C.1 C.2.1 dL_law_852 rfl (lv_at hl 1 rfl) ?_
    refine lv_aload_n C.1 C.2.1 dL_law_853 rfl (lv_at hl 0 rfl) ?_
    refine lv_iload C.1 C.2.1 dL_law_854 (lv_at hl 4 rfl) ?_
    refine z_iconst C dL_law_856 ?_
    refine z_iadd C dL_law_857 ?_
    refine zd_ld C Z G q1 (x.toNat + 1) e1 (by omega) (by omega) dL_law_858 ?_
    refine lv_aload_n C.1 C.2.1 dL_law_859 rfl (lv_at hl 0 rfl) ?_
    refine lv_iload C.1 C.2.1 dL_law_860 (lv_at hl 4 rfl) ?_
    refine z_iconst C dL_law_862 ?_
    refine z_iadd C dL_law_863 ?_
    refine zd_ld C Z G q2 (x.toNat + 2) e2 (by omega) (by omega) dL_law_864 ?_
    refine lv_aload_n C.1 C.2.1 dL_law_865 rfl (lv_at hl 0 rfl) ?_
    refine lv_iload C.1 C.2.1 dL_law_866 (lv_at hl 4 rfl) ?_
    refine z_iconst C dL_law_868 ?_
    refine z_iadd C dL_law_869 ?_
    refine zd_ld C Z G q3 (x.toNat + 3) e3 (by omega) (by omega) dL_law_870 ?_
    refine lv_aload_n C.1 C.2.1 dL_law_871 rfl (lv_at hl 3 rfl) ?_
    refine zd_W (as := [.ref o, .int (iZ (q1)), .int (iZ (q2)), .int (iZ (q3)), .ref w]) C Z Y G (c_L_rest_badc l hlq D cJ o a _ _ _ _ (q1) (q2) (q3) (by first | assumption | omega) (by first | assumption | omega) (by first | assumption | omega) (by first | assumption | omega) w _ _) ml_L_214 ⟨Nat.le_of_ble_eq_true rfl, Nat.le_of_ble_eq_true rfl⟩ ⟨by show cells + 0 + 1 ≤ 665281; omega, by show slots + 0 + 6 ≤ 7105636; omega⟩ hl (Nat.le_of_ble_eq_true rfl) rfl dL_law_872 (fun H locs G => ?_)
    refine lv_istore (lv' := [(5, .int (iZ (1))), (0, .ref t), (1, .ref o), (2, .ref u), (3, .ref w), (4, .int (iZ (x)))]) C.1 C.2.1 dL_law_875 hl (by decide) rfl (fun ls hl => ?_)
    refine lv_aload_n C.1 C.2.1 dL_law_877 rfl (lv_at hl 3 rfl) ?_
    refine lv_aload_n C.1 C.2.1 dL_law_878 rfl (lv_at hl 1 rfl) ?_
    refine lv_iload C.1 C.2.1 dL_law_879 (lv_at hl 5 rfl) ?_
    refine z_iconst C dL_law_881 ?_
    refine z_iadd C dL_law_882 ?_
    refine zd_ld C Z G q1 (x.toNat + 1) e1 (by omega) (by omega) dL_law_883 ?_
    refine lv_aload_n C.1 C.2.1 dL_law_884 rfl (lv_at hl 1 rfl) ?_
    refine lv_iload C.1 C.2.1 dL_law_885 (lv_at hl 5 rfl) ?_
    refine z_iconst C dL_law_887 ?_
    refine z_iadd C dL_law_888 ?_
    refine zd_ld C Z G q2 (x.toNat + 2) e2 (by omega) (by omega) dL_law_889 ?_
    refine lv_aload_n C.1 C.2.1 dL_law_890 rfl (lv_at hl 1 rfl) ?_
    refine lv_iload C.1 C.2.1 dL_law_891 (lv_at hl 5 rfl) ?_
    refine z_iconst C dL_law_893 ?_
    refine z_iadd C dL_law_894 ?_
    refine zd_ld C Z G q3 (x.toNat + 3) e3 (by omega) (by omega) dL_law_895 ?_
    refine zd_M (as := [.int (iZ (q1)), .int (iZ (q2)), .int (iZ (q3))]) C Y G (c_X5_rest_bad1 l D cJ u v _ _ _ _ _ (q1) (q2) (q3) (by first | assumption | omega) (by first | assumption | omega) (by first | assumption | omega) (by first | assumption | omega)) ml_L_216 rfl ⟨Nat.le_of_ble_eq_true rfl, Nat.le_of_ble_eq_true rfl⟩ ⟨by show cells + 1 + 0 ≤ 665281; omega, by show slots + 6 + 0 ≤ 7105636; omega⟩ hl (Nat.le_of_ble_eq_true rfl) rfl dL_law_896 (fun y9 H locs hy9 G => ?_)
    subst hy9
    refine lv_istore (lv' := [(6, _), (5, .int (iZ (1))), (0, .ref t), (1, .ref o), (2, .ref u), (3, .ref w), (4, .int (iZ (x)))]) C.1 C.2.1 dL_law_899 hl (by decide) rfl (fun ls hl => ?_)
    refine lv_goto (tgt := 2200) C.1 C.2.1 dL_law_901 (by decide) ?_
    exact kk _ _ _ _ _ _ _ _ _ _ _ _ G (by omega) (by omega) (lv_sub hl [2, 3, 4, 5, 6] rfl)
set_option maxHeartbeats 4000000 in
set_option maxRecDepth 100000 in
theorem lk_13 (hlq : l.stackTraces = false) (C : CallFix p m c0 cL_law 7 s args T0 RL) (Z : zLw D cB t N g s) (Y : zAd o a u v w s) {c : Nat → Nat} {ac re kn : Int32} {th : Int} {n : Int64} {sv : Value} {H : Heap} {locs : List Loc} {ls : Array Slot} {cells slots : Nat} (G : zG D cJ o a u v w c [.int ac, .int re, .int kn] c [.int (iZ th), .int ac, .int re, .int kn] n sv s H locs) (x : Int) (hx : 0 ≤ x ∧ x + 5 ≤ (N : Int)) (hf : cells + 150 ≤ 665281 ∧ slots + 75000 ≤ 7105636) (hl : lv_has ls 7 [(0, .ref t), (1, .ref o), (2, .ref u), (3, .ref w), (4, .int (iZ (x)))])
    (kk : zNx p l e s m args below meth c0 D cJ t o a u v w x cells slots Qw 2200) : W p l e room_1 s m args below meth c0 H locs cells slots Qw (F0 m 904 ls []) := by
  have hc := G.1.2.2.2
  obtain ⟨q1, e1⟩ : ∃ z, g (x.toNat + 1) = z := ⟨_, rfl⟩
  have r1 : -2147483648 ≤ q1 ∧ q1 ≤ 2147483647 := e1 ▸ Z.2.2.2.2.2.1 _
  obtain ⟨q2, e2⟩ : ∃ z, g (x.toNat + 2) = z := ⟨_, rfl⟩
  have r2 : -2147483648 ≤ q2 ∧ q2 ≤ 2147483647 := e2 ▸ Z.2.2.2.2.2.1 _
  obtain ⟨q3, e3⟩ : ∃ z, g (x.toNat + 3) = z := ⟨_, rfl⟩
  have r3 : -2147483648 ≤ q3 ∧ q3 ≤ 2147483647 := e3 ▸ Z.2.2.2.2.2.1 _
  by_cases hcel : (0 ≤ q1 ∧ q1 ≤ 5) ∧ (0 ≤ q2 ∧ q2 ≤ 5) ∧ (0 ≤ q3 ∧ q3 ≤ 5)
  · skip
    refine lv_aload_n C.1 C.2.1 dL_law_904 rfl (lv_at hl 1 rfl) ?_
    refine lv_aload_n C.1 C.2.1 dL_law_905 rfl (lv_at hl 0 rfl) ?_
    refine lv_iload C.1 C.2.1 dL_law_906 (lv_at hl 4 rfl) ?_
    refine z_iconst C dL_law_908 ?_
    refine z_iadd C dL_law_909 ?_
    refine zd_ld C Z G q1 (x.toNat + 1) e1 (by omega) (by omega) dL_law_910 ?_
    refine lv_aload_n C.1 C.2.1 dL_law_911 rfl (lv_at hl 0 rfl) ?_
    refine lv_iload C.1 C.2.1 dL_law_912 (lv_at hl 4 rfl) ?_
    refine z_iconst C dL_law_914 ?_
    refine z_iadd C dL_law_915 ?_
    refine zd_ld C Z G q2 (x.toNat + 2) e2 (by omega) (by omega) dL_law_916 ?_
    refine lv_aload_n C.1 C.2.1 dL_law_917 rfl (lv_at hl 0 rfl) ?_
    refine lv_iload C.1 C.2.1 dL_law_918 (lv_at hl 4 rfl) ?_
    refine z_iconst C dL_law_920 ?_
    refine z_iadd C dL_law_921 ?_
    refine zd_ld C Z G q3 (x.toNat + 3) e3 (by omega) (by omega) dL_law_922 ?_
    refine lv_aload_n C.1 C.2.1 dL_law_923 rfl (lv_at hl 3 rfl) ?_
    refine zd_W (as := [.ref o, .int (iZ (q1)), .int (iZ (q2)), .int (iZ (q3)), .ref w]) C Z Y G (c_L_gcd l D cJ o a _ _ _ _ (q1) (q2) (q3) (by first | assumption | omega) (by first | assumption | omega) (by first | assumption | omega) w _ _) ml_L_217 ⟨Nat.le_of_ble_eq_true rfl, Nat.le_of_ble_eq_true rfl⟩ ⟨by show cells + 0 + 0 ≤ 665281; omega, by show slots + 0 + 0 ≤ 7105636; omega⟩ hl (Nat.le_of_ble_eq_true rfl) rfl dL_law_924 (fun H locs G => ?_)
    refine lv_istore (lv' := [(5, .int (iZ (0))), (0, .ref t), (1, .ref o), (2, .ref u), (3, .ref w), (4, .int (iZ (x)))]) C.1 C.2.1 dL_law_927 hl (by decide) rfl (fun ls hl => ?_)
    refine lv_aload_n C.1 C.2.1 dL_law_929 rfl (lv_at hl 3 rfl) ?_
    refine lv_aload_n C.1 C.2.1 dL_law_930 rfl (lv_at hl 1 rfl) ?_
    refine lv_iload C.1 C.2.1 dL_law_931 (lv_at hl 5 rfl) ?_
    refine z_iconst C dL_law_933 ?_
    refine z_iadd C dL_law_934 ?_
    refine zd_ld C Z G q1 (x.toNat + 1) e1 (by omega) (by omega) dL_law_935 ?_
    refine lv_aload_n C.1 C.2.1 dL_law_936 rfl (lv_at hl 1 rfl) ?_
    refine lv_iload C.1 C.2.1 dL_law_937 (lv_at hl 5 rfl) ?_
    refine z_iconst C dL_law_939 ?_
    refine z_iadd C dL_law_940 ?_
    refine zd_ld C Z G q2 (x.toNat + 2) e2 (by omega) (by omega) dL_law_941 ?_
    refine lv_aload_n C.1 C.2.1 dL_law_942 rfl (lv_at hl 1 rfl) ?_
    refine lv_iload C.1 C.2.1 dL_law_943 (lv_at hl 5 rfl) ?_
    refine z_iconst C dL_law_945 ?_
    refine z_iadd C dL_law_946 ?_
    refine zd_ld C Z G q3 (x.toNat + 3) e3 (by omega) (by omega) dL_law_947 ?_
    refine zd_M (as := [.int (iZ (q1)), .int (iZ (q2)), .int (iZ (q3))]) C Y G (c_X5_gcd l D cJ u v _ _ _ _ _ (q1) (q2) (q3) (by first | assumption | omega) (by first | assumption | omega) (by first | assumption | omega)) ml_L_219 rfl ⟨Nat.le_of_ble_eq_true rfl, Nat.le_of_ble_eq_true rfl⟩ ⟨by show cells + 0 + 0 ≤ 665281; omega, by show slots + 0 + 0 ≤ 7105636; omega⟩ hl (Nat.le_of_ble_eq_true rfl) rfl dL_law_948 (fun y9 H locs hy9 G => ?_)
    subst hy9
    refine lv_istore (lv' := [(6, _), (5, .int (iZ (0))), (0, .ref t), (1, .ref o), (2, .ref u), (3, .ref w), (4, .int (iZ (x)))]) C.1 C.2.1 dL_law_951 hl (by decide) rfl (fun ls hl => ?_)
    refine lv_goto (tgt := 2200) C.1 C.2.1 dL_law_953 (by decide) ?_
    exact kk _ _ _ _ _ _ _ _ _ _ _ _ G (by omega) (by omega) (lv_sub hl [2, 3, 4, 5, 6] rfl)
  · skip
    refine lv_aload_n C.1 C.2.1 dL_law_904 rfl (lv_at hl 1 rfl) ?_
    refine lv_aload_n C.1 C.2.1 dL_law_905 rfl (lv_at hl 0 rfl) ?_
    refine lv_iload C.1 C.2.1 dL_law_906 (lv_at hl 4 rfl) ?_
    refine z_iconst C dL_law_908 ?_
    refine z_iadd C dL_law_909 ?_
    refine zd_ld C Z G q1 (x.toNat + 1) e1 (by omega) (by omega) dL_law_910 ?_
    refine lv_aload_n C.1 C.2.1 dL_law_911 rfl (lv_at hl 0 rfl) ?_
    refine lv_iload C.1 C.2.1 dL_law_912 (lv_at hl 4 rfl) ?_
    refine z_iconst C dL_law_914 ?_
    refine z_iadd C dL_law_915 ?_
    refine zd_ld C Z G q2 (x.toNat + 2) e2 (by omega) (by omega) dL_law_916 ?_
    refine lv_aload_n C.1 C.2.1 dL_law_917 rfl (lv_at hl 0 rfl) ?_
    refine lv_iload C.1 C.2.1 dL_law_918 (lv_at hl 4 rfl) ?_
    refine z_iconst C dL_law_920 ?_
    refine z_iadd C dL_law_921 ?_
    refine zd_ld C Z G q3 (x.toNat + 3) e3 (by omega) (by omega) dL_law_922 ?_
    refine lv_aload_n C.1 C.2.1 dL_law_923 rfl (lv_at hl 3 rfl) ?_
    refine zd_W (as := [.ref o, .int (iZ (q1)), .int (iZ (q2)), .int (iZ (q3)), .ref w]) C Z Y G (c_L_gcd_badc l hlq D cJ o a _ _ _ _ (q1) (q2) (q3) (by first | assumption | omega) (by first | assumption | omega) (by first | assumption | omega) (by first | assumption | omega) w _ _) ml_L_217 ⟨Nat.le_of_ble_eq_true rfl, Nat.le_of_ble_eq_true rfl⟩ ⟨by show cells + 0 + 1 ≤ 665281; omega, by show slots + 0 + 6 ≤ 7105636; omega⟩ hl (Nat.le_of_ble_eq_true rfl) rfl dL_law_924 (fun H locs G => ?_)
    refine lv_istore (lv' := [(5, .int (iZ (1))), (0, .ref t), (1, .ref o), (2, .ref u), (3, .ref w), (4, .int (iZ (x)))]) C.1 C.2.1 dL_law_927 hl (by decide) rfl (fun ls hl => ?_)
    refine lv_aload_n C.1 C.2.1 dL_law_929 rfl (lv_at hl 3 rfl) ?_
    refine lv_aload_n C.1 C.2.1 dL_law_930 rfl (lv_at hl 1 rfl) ?_
    refine lv_iload C.1 C.2.1 dL_law_931 (lv_at hl 5 rfl) ?_
    refine z_iconst C dL_law_933 ?_
    refine z_iadd C dL_law_934 ?_
    refine zd_ld C Z G q1 (x.toNat + 1) e1 (by omega) (by omega) dL_law_935 ?_
    refine lv_aload_n C.1 C.2.1 dL_law_936 rfl (lv_at hl 1 rfl) ?_
    refine lv_iload C.1 C.2.1 dL_law_937 (lv_at hl 5 rfl) ?_
    refine z_iconst C dL_law_939 ?_
    refine z_iadd C dL_law_940 ?_
    refine zd_ld C Z G q2 (x.toNat + 2) e2 (by omega) (by omega) dL_law_941 ?_
    refine lv_aload_n C.1 C.2.1 dL_law_942 rfl (lv_at hl 1 rfl) ?_
    refine lv_iload C.1 C.2.1 dL_law_943 (lv_at hl 5 rfl) ?_
    refine z_iconst C dL_law_945 ?_
    refine z_iadd C dL_law_946 ?_
    refine zd_ld C Z G q3 (x.toNat + 3) e3 (by omega) (by omega) dL_law_947 ?_
    refine zd_M (as := [.int (iZ (q1)), .int (iZ (q2)), .int (iZ (q3))]) C Y G (c_X5_gcd_bad1 l D cJ u v _ _ _ _ _ (q1) (q2) (q3) (by first | assumption | omega) (by first | assumption | omega) (by first | assumption | omega) (by first | assumption | omega)) ml_L_219 rfl ⟨Nat.le_of_ble_eq_true rfl, Nat.le_of_ble_eq_true rfl⟩ ⟨by show cells + 1 + 0 ≤ 665281; omega, by show slots + 6 + 0 ≤ 7105636; omega⟩ hl (Nat.le_of_ble_eq_true rfl) rfl dL_law_948 (fun y9 H locs hy9 G => ?_)
    subst hy9
    refine lv_istore (lv' := [(6, _), (5, .int (iZ (1))), (0, .ref t), (1, .ref o), (2, .ref u), (3, .ref w), (4, .int (iZ (x)))]) C.1 C.2.1 dL_law_951 hl (by decide) rfl (fun ls hl => ?_)
    refine lv_goto (tgt := 2200) C.1 C.2.1 dL_law_953 (by decide) ?_
    exact kk _ _ _ _ _ _ _ _ _ _ _ _ G (by omega) (by omega) (lv_sub hl [2, 3, 4, 5, 6] rfl)
set_option maxHeartbeats 4000000 in
set_option maxRecDepth 100000 in
theorem lk_14 (hlq : l.stackTraces = false) (C : CallFix p m c0 cL_law 7 s args T0 RL) (Z : zLw D cB t N g s) (Y : zAd o a u v w s) {c : Nat → Nat} {ac re kn : Int32} {th : Int} {n : Int64} {sv : Value} {H : Heap} {locs : List Loc} {ls : Array Slot} {cells slots : Nat} (G : zG D cJ o a u v w c [.int ac, .int re, .int kn] c [.int (iZ th), .int ac, .int re, .int kn] n sv s H locs) (x : Int) (hx : 0 ≤ x ∧ x + 5 ≤ (N : Int)) (hf : cells + 150 ≤ 665281 ∧ slots + 75000 ≤ 7105636) (hl : lv_has ls 7 [(0, .ref t), (1, .ref o), (2, .ref u), (3, .ref w), (4, .int (iZ (x)))])
    (kk : zNx p l e s m args below meth c0 D cJ t o a u v w x cells slots Qw 2200) : W p l e room_1 s m args below meth c0 H locs cells slots Qw (F0 m 956 ls []) := by
  have hc := G.1.2.2.2
  obtain ⟨q1, e1⟩ : ∃ z, g (x.toNat + 1) = z := ⟨_, rfl⟩
  have r1 : -2147483648 ≤ q1 ∧ q1 ≤ 2147483647 := e1 ▸ Z.2.2.2.2.2.1 _
  obtain ⟨q2, e2⟩ : ∃ z, g (x.toNat + 2) = z := ⟨_, rfl⟩
  have r2 : -2147483648 ≤ q2 ∧ q2 ≤ 2147483647 := e2 ▸ Z.2.2.2.2.2.1 _
  obtain ⟨q3, e3⟩ : ∃ z, g (x.toNat + 3) = z := ⟨_, rfl⟩
  have r3 : -2147483648 ≤ q3 ∧ q3 ≤ 2147483647 := e3 ▸ Z.2.2.2.2.2.1 _
  by_cases hcel : (0 ≤ q1 ∧ q1 ≤ 5) ∧ (0 ≤ q2 ∧ q2 ≤ 5) ∧ (0 ≤ q3 ∧ q3 ≤ 5)
  · skip
    refine lv_aload_n C.1 C.2.1 dL_law_956 rfl (lv_at hl 1 rfl) ?_
    refine lv_aload_n C.1 C.2.1 dL_law_957 rfl (lv_at hl 0 rfl) ?_
    refine lv_iload C.1 C.2.1 dL_law_958 (lv_at hl 4 rfl) ?_
    refine z_iconst C dL_law_960 ?_
    refine z_iadd C dL_law_961 ?_
    refine zd_ld C Z G q1 (x.toNat + 1) e1 (by omega) (by omega) dL_law_962 ?_
    refine lv_aload_n C.1 C.2.1 dL_law_963 rfl (lv_at hl 0 rfl) ?_
    refine lv_iload C.1 C.2.1 dL_law_964 (lv_at hl 4 rfl) ?_
    refine z_iconst C dL_law_966 ?_
    refine z_iadd C dL_law_967 ?_
    refine zd_ld C Z G q2 (x.toNat + 2) e2 (by omega) (by omega) dL_law_968 ?_
    refine lv_aload_n C.1 C.2.1 dL_law_969 rfl (lv_at hl 0 rfl) ?_
    refine lv_iload C.1 C.2.1 dL_law_970 (lv_at hl 4 rfl) ?_
    refine z_iconst C dL_law_972 ?_
    refine z_iadd C dL_law_973 ?_
    refine zd_ld C Z G q3 (x.toNat + 3) e3 (by omega) (by omega) dL_law_974 ?_
    refine lv_aload_n C.1 C.2.1 dL_law_975 rfl (lv_at hl 3 rfl) ?_
    refine zd_W (as := [.ref o, .int (iZ (q1)), .int (iZ (q2)), .int (iZ (q3)), .ref w]) C Z Y G (c_L_lcm l D cJ o a _ _ _ _ (q1) (q2) (q3) (by first | assumption | omega) (by first | assumption | omega) (by first | assumption | omega) w _ _) ml_L_220 ⟨Nat.le_of_ble_eq_true rfl, Nat.le_of_ble_eq_true rfl⟩ ⟨by show cells + 0 + 0 ≤ 665281; omega, by show slots + 0 + 0 ≤ 7105636; omega⟩ hl (Nat.le_of_ble_eq_true rfl) rfl dL_law_976 (fun H locs G => ?_)
    refine lv_istore (lv' := [(5, .int (iZ (0))), (0, .ref t), (1, .ref o), (2, .ref u), (3, .ref w), (4, .int (iZ (x)))]) C.1 C.2.1 dL_law_979 hl (by decide) rfl (fun ls hl => ?_)
    refine lv_aload_n C.1 C.2.1 dL_law_981 rfl (lv_at hl 3 rfl) ?_
    refine lv_aload_n C.1 C.2.1 dL_law_982 rfl (lv_at hl 1 rfl) ?_
    refine lv_iload C.1 C.2.1 dL_law_983 (lv_at hl 5 rfl) ?_
    refine z_iconst C dL_law_985 ?_
    refine z_iadd C dL_law_986 ?_
    refine zd_ld C Z G q1 (x.toNat + 1) e1 (by omega) (by omega) dL_law_987 ?_
    refine lv_aload_n C.1 C.2.1 dL_law_988 rfl (lv_at hl 1 rfl) ?_
    refine lv_iload C.1 C.2.1 dL_law_989 (lv_at hl 5 rfl) ?_
    refine z_iconst C dL_law_991 ?_
    refine z_iadd C dL_law_992 ?_
    refine zd_ld C Z G q2 (x.toNat + 2) e2 (by omega) (by omega) dL_law_993 ?_
    refine lv_aload_n C.1 C.2.1 dL_law_994 rfl (lv_at hl 1 rfl) ?_
    refine lv_iload C.1 C.2.1 dL_law_995 (lv_at hl 5 rfl) ?_
    refine z_iconst C dL_law_997 ?_
    refine z_iadd C dL_law_998 ?_
    refine zd_ld C Z G q3 (x.toNat + 3) e3 (by omega) (by omega) dL_law_999 ?_
    refine zd_M (as := [.int (iZ (q1)), .int (iZ (q2)), .int (iZ (q3))]) C Y G (c_X5_lcm l D cJ u v _ _ _ _ _ (q1) (q2) (q3) (by first | assumption | omega) (by first | assumption | omega) (by first | assumption | omega)) ml_L_222 rfl ⟨Nat.le_of_ble_eq_true rfl, Nat.le_of_ble_eq_true rfl⟩ ⟨by show cells + 0 + 0 ≤ 665281; omega, by show slots + 0 + 0 ≤ 7105636; omega⟩ hl (Nat.le_of_ble_eq_true rfl) rfl dL_law_1000 (fun y9 H locs hy9 G => ?_)
    subst hy9
    refine lv_istore (lv' := [(6, _), (5, .int (iZ (0))), (0, .ref t), (1, .ref o), (2, .ref u), (3, .ref w), (4, .int (iZ (x)))]) C.1 C.2.1 dL_law_1003 hl (by decide) rfl (fun ls hl => ?_)
    refine lv_goto (tgt := 2200) C.1 C.2.1 dL_law_1005 (by decide) ?_
    rw [lcm_eq (hc _) (hc _)] at G
    exact kk _ _ _ _ _ _ _ _ _ _ _ _ G (by omega) (by omega) (lv_sub hl [2, 3, 4, 5, 6] rfl)
  · skip
    refine lv_aload_n C.1 C.2.1 dL_law_956 rfl (lv_at hl 1 rfl) ?_
    refine lv_aload_n C.1 C.2.1 dL_law_957 rfl (lv_at hl 0 rfl) ?_
    refine lv_iload C.1 C.2.1 dL_law_958 (lv_at hl 4 rfl) ?_
    refine z_iconst C dL_law_960 ?_
    refine z_iadd C dL_law_961 ?_
    refine zd_ld C Z G q1 (x.toNat + 1) e1 (by omega) (by omega) dL_law_962 ?_
    refine lv_aload_n C.1 C.2.1 dL_law_963 rfl (lv_at hl 0 rfl) ?_
    refine lv_iload C.1 C.2.1 dL_law_964 (lv_at hl 4 rfl) ?_
    refine z_iconst C dL_law_966 ?_
    refine z_iadd C dL_law_967 ?_
    refine zd_ld C Z G q2 (x.toNat + 2) e2 (by omega) (by omega) dL_law_968 ?_
    refine lv_aload_n C.1 C.2.1 dL_law_969 rfl (lv_at hl 0 rfl) ?_
    refine lv_iload C.1 C.2.1 dL_law_970 (lv_at hl 4 rfl) ?_
    refine z_iconst C dL_law_972 ?_
    refine z_iadd C dL_law_973 ?_
    refine zd_ld C Z G q3 (x.toNat + 3) e3 (by omega) (by omega) dL_law_974 ?_
    refine lv_aload_n C.1 C.2.1 dL_law_975 rfl (lv_at hl 3 rfl) ?_
    refine zd_W (as := [.ref o, .int (iZ (q1)), .int (iZ (q2)), .int (iZ (q3)), .ref w]) C Z Y G (c_L_lcm_badc l hlq D cJ o a _ _ _ _ (q1) (q2) (q3) (by first | assumption | omega) (by first | assumption | omega) (by first | assumption | omega) (by first | assumption | omega) w _ _) ml_L_220 ⟨Nat.le_of_ble_eq_true rfl, Nat.le_of_ble_eq_true rfl⟩ ⟨by show cells + 0 + 1 ≤ 665281; omega, by show slots + 0 + 6 ≤ 7105636; omega⟩ hl (Nat.le_of_ble_eq_true rfl) rfl dL_law_976 (fun H locs G => ?_)
    refine lv_istore (lv' := [(5, .int (iZ (1))), (0, .ref t), (1, .ref o), (2, .ref u), (3, .ref w), (4, .int (iZ (x)))]) C.1 C.2.1 dL_law_979 hl (by decide) rfl (fun ls hl => ?_)
    refine lv_aload_n C.1 C.2.1 dL_law_981 rfl (lv_at hl 3 rfl) ?_
    refine lv_aload_n C.1 C.2.1 dL_law_982 rfl (lv_at hl 1 rfl) ?_
    refine lv_iload C.1 C.2.1 dL_law_983 (lv_at hl 5 rfl) ?_
    refine z_iconst C dL_law_985 ?_
    refine z_iadd C dL_law_986 ?_
    refine zd_ld C Z G q1 (x.toNat + 1) e1 (by omega) (by omega) dL_law_987 ?_
    refine lv_aload_n C.1 C.2.1 dL_law_988 rfl (lv_at hl 1 rfl) ?_
    refine lv_iload C.1 C.2.1 dL_law_989 (lv_at hl 5 rfl) ?_
    refine z_iconst C dL_law_991 ?_
    refine z_iadd C dL_law_992 ?_
    refine zd_ld C Z G q2 (x.toNat + 2) e2 (by omega) (by omega) dL_law_993 ?_
    refine lv_aload_n C.1 C.2.1 dL_law_994 rfl (lv_at hl 1 rfl) ?_
    refine lv_iload C.1 C.2.1 dL_law_995 (lv_at hl 5 rfl) ?_
    refine z_iconst C dL_law_997 ?_
    refine z_iadd C dL_law_998 ?_
    refine zd_ld C Z G q3 (x.toNat + 3) e3 (by omega) (by omega) dL_law_999 ?_
    refine zd_M (as := [.int (iZ (q1)), .int (iZ (q2)), .int (iZ (q3))]) C Y G (c_X5_lcm_bad1 l D cJ u v _ _ _ _ _ (q1) (q2) (q3) (by first | assumption | omega) (by first | assumption | omega) (by first | assumption | omega) (by first | assumption | omega)) ml_L_222 rfl ⟨Nat.le_of_ble_eq_true rfl, Nat.le_of_ble_eq_true rfl⟩ ⟨by show cells + 1 + 0 ≤ 665281; omega, by show slots + 6 + 0 ≤ 7105636; omega⟩ hl (Nat.le_of_ble_eq_true rfl) rfl dL_law_1000 (fun y9 H locs hy9 G => ?_)
    subst hy9
    refine lv_istore (lv' := [(6, _), (5, .int (iZ (1))), (0, .ref t), (1, .ref o), (2, .ref u), (3, .ref w), (4, .int (iZ (x)))]) C.1 C.2.1 dL_law_1003 hl (by decide) rfl (fun ls hl => ?_)
    refine lv_goto (tgt := 2200) C.1 C.2.1 dL_law_1005 (by decide) ?_
    exact kk _ _ _ _ _ _ _ _ _ _ _ _ G (by omega) (by omega) (lv_sub hl [2, 3, 4, 5, 6] rfl)
set_option maxHeartbeats 4000000 in
set_option maxRecDepth 100000 in
theorem lk_15 (hlq : l.stackTraces = false) (C : CallFix p m c0 cL_law 7 s args T0 RL) (Z : zLw D cB t N g s) (Y : zAd o a u v w s) {c : Nat → Nat} {ac re kn : Int32} {th : Int} {n : Int64} {sv : Value} {H : Heap} {locs : List Loc} {ls : Array Slot} {cells slots : Nat} (G : zG D cJ o a u v w c [.int ac, .int re, .int kn] c [.int (iZ th), .int ac, .int re, .int kn] n sv s H locs) (x : Int) (hx : 0 ≤ x ∧ x + 5 ≤ (N : Int)) (hf : cells + 150 ≤ 665281 ∧ slots + 75000 ≤ 7105636) (hl : lv_has ls 7 [(0, .ref t), (1, .ref o), (2, .ref u), (3, .ref w), (4, .int (iZ (x)))])
    (kk : zNx p l e s m args below meth c0 D cJ t o a u v w x cells slots Qw 2200) : W p l e room_1 s m args below meth c0 H locs cells slots Qw (F0 m 1008 ls []) := by
  have hc := G.1.2.2.2
  obtain ⟨q1, e1⟩ : ∃ z, g (x.toNat + 1) = z := ⟨_, rfl⟩
  have r1 : -2147483648 ≤ q1 ∧ q1 ≤ 2147483647 := e1 ▸ Z.2.2.2.2.2.1 _
  obtain ⟨q2, e2⟩ : ∃ z, g (x.toNat + 2) = z := ⟨_, rfl⟩
  have r2 : -2147483648 ≤ q2 ∧ q2 ≤ 2147483647 := e2 ▸ Z.2.2.2.2.2.1 _
  obtain ⟨q3, e3⟩ : ∃ z, g (x.toNat + 3) = z := ⟨_, rfl⟩
  have r3 : -2147483648 ≤ q3 ∧ q3 ≤ 2147483647 := e3 ▸ Z.2.2.2.2.2.1 _
  obtain ⟨q4, e4⟩ : ∃ z, g (x.toNat + 4) = z := ⟨_, rfl⟩
  have r4 : -2147483648 ≤ q4 ∧ q4 ≤ 2147483647 := e4 ▸ Z.2.2.2.2.2.1 _
  by_cases hcel : (0 ≤ q1 ∧ q1 ≤ 5) ∧ (0 ≤ q2 ∧ q2 ≤ 5) ∧ (0 ≤ q4 ∧ q4 ≤ 5)
  · skip
    refine lv_aload_n C.1 C.2.1 dL_law_1008 rfl (lv_at hl 1 rfl) ?_
    refine lv_aload_n C.1 C.2.1 dL_law_1009 rfl (lv_at hl 0 rfl) ?_
    refine lv_iload C.1 C.2.1 dL_law_1010 (lv_at hl 4 rfl) ?_
    refine z_iconst C dL_law_1012 ?_
    refine z_iadd C dL_law_1013 ?_
    refine zd_ld C Z G q1 (x.toNat + 1) e1 (by omega) (by omega) dL_law_1014 ?_
    refine lv_aload_n C.1 C.2.1 dL_law_1015 rfl (lv_at hl 0 rfl) ?_
    refine lv_iload C.1 C.2.1 dL_law_1016 (lv_at hl 4 rfl) ?_
    refine z_iconst C dL_law_1018 ?_
    refine z_iadd C dL_law_1019 ?_
    refine zd_ld C Z G q2 (x.toNat + 2) e2 (by omega) (by omega) dL_law_1020 ?_
    refine lv_aload_n C.1 C.2.1 dL_law_1021 rfl (lv_at hl 0 rfl) ?_
    refine lv_iload C.1 C.2.1 dL_law_1022 (lv_at hl 4 rfl) ?_
    refine z_iconst C dL_law_1024 ?_
    refine z_iadd C dL_law_1025 ?_
    refine zd_ld C Z G q3 (x.toNat + 3) e3 (by omega) (by omega) dL_law_1026 ?_
    refine zd_nz C (by omega) dL_law_1027 dL_law_1030 dL_law_1031 dL_law_1034 ?_
    refine lv_aload_n C.1 C.2.1 dL_law_1035 rfl (lv_at hl 0 rfl) ?_
    refine lv_iload C.1 C.2.1 dL_law_1036 (lv_at hl 4 rfl) ?_
    refine z_iconst C dL_law_1038 ?_
    refine z_iadd C dL_law_1039 ?_
    refine zd_ld C Z G q4 (x.toNat + 4) e4 (by omega) (by omega) dL_law_1040 ?_
    refine lv_aload_n C.1 C.2.1 dL_law_1041 rfl (lv_at hl 3 rfl) ?_
    refine zd_W (as := [.ref o, .int (iZ (q1)), .int (iZ (q2)), .int (iZ (zB (decide (q3 ≠ 0)))), .int (iZ (q4)), .ref w]) C Z Y G (c_L_bezout l D cJ o a _ _ _ _ (q1) (q2) (decide (q3 ≠ 0)) (q4) (by first | assumption | omega) (by first | assumption | omega) (by first | assumption | omega) w _ _) ml_L_223 ⟨Nat.le_of_ble_eq_true rfl, Nat.le_of_ble_eq_true rfl⟩ ⟨by show cells + 0 + 0 ≤ 665281; omega, by show slots + 0 + 0 ≤ 7105636; omega⟩ hl (Nat.le_of_ble_eq_true rfl) rfl dL_law_1042 (fun H locs G => ?_)
    refine lv_istore (lv' := [(5, .int (iZ (0))), (0, .ref t), (1, .ref o), (2, .ref u), (3, .ref w), (4, .int (iZ (x)))]) C.1 C.2.1 dL_law_1045 hl (by decide) rfl (fun ls hl => ?_)
    refine lv_aload_n C.1 C.2.1 dL_law_1047 rfl (lv_at hl 3 rfl) ?_
    refine lv_aload_n C.1 C.2.1 dL_law_1048 rfl (lv_at hl 1 rfl) ?_
    refine lv_iload C.1 C.2.1 dL_law_1049 (lv_at hl 5 rfl) ?_
    refine z_iconst C dL_law_1051 ?_
    refine z_iadd C dL_law_1052 ?_
    refine zd_ld C Z G q1 (x.toNat + 1) e1 (by omega) (by omega) dL_law_1053 ?_
    refine lv_aload_n C.1 C.2.1 dL_law_1054 rfl (lv_at hl 1 rfl) ?_
    refine lv_iload C.1 C.2.1 dL_law_1055 (lv_at hl 5 rfl) ?_
    refine z_iconst C dL_law_1057 ?_
    refine z_iadd C dL_law_1058 ?_
    refine zd_ld C Z G q2 (x.toNat + 2) e2 (by omega) (by omega) dL_law_1059 ?_
    refine lv_aload_n C.1 C.2.1 dL_law_1060 rfl (lv_at hl 1 rfl) ?_
    refine lv_iload C.1 C.2.1 dL_law_1061 (lv_at hl 5 rfl) ?_
    refine z_iconst C dL_law_1063 ?_
    refine z_iadd C dL_law_1064 ?_
    refine zd_ld C Z G q3 (x.toNat + 3) e3 (by omega) (by omega) dL_law_1065 ?_
    refine zd_nz C (by omega) dL_law_1066 dL_law_1069 dL_law_1070 dL_law_1073 ?_
    refine lv_aload_n C.1 C.2.1 dL_law_1074 rfl (lv_at hl 1 rfl) ?_
    refine lv_iload C.1 C.2.1 dL_law_1075 (lv_at hl 5 rfl) ?_
    refine z_iconst C dL_law_1077 ?_
    refine z_iadd C dL_law_1078 ?_
    refine zd_ld C Z G q4 (x.toNat + 4) e4 (by omega) (by omega) dL_law_1079 ?_
    refine zd_M (as := [.int (iZ (q1)), .int (iZ (q2)), .int (iZ (zB (decide (q3 ≠ 0)))), .int (iZ (q4))]) C Y G (c_X5_bezout l D cJ u v _ _ _ _ _ (q1) (q2) (decide (q3 ≠ 0)) (q4) (by first | assumption | omega) (by first | assumption | omega) (by first | assumption | omega)) ml_L_225 rfl ⟨Nat.le_of_ble_eq_true rfl, Nat.le_of_ble_eq_true rfl⟩ ⟨by show cells + 0 + 0 ≤ 665281; omega, by show slots + 0 + 0 ≤ 7105636; omega⟩ hl (Nat.le_of_ble_eq_true rfl) rfl dL_law_1080 (fun y9 H locs hy9 G => ?_)
    subst hy9
    refine lv_istore (lv' := [(6, _), (5, .int (iZ (0))), (0, .ref t), (1, .ref o), (2, .ref u), (3, .ref w), (4, .int (iZ (x)))]) C.1 C.2.1 dL_law_1083 hl (by decide) rfl (fun ls hl => ?_)
    refine lv_goto (tgt := 2200) C.1 C.2.1 dL_law_1085 (by decide) ?_
    exact kk _ _ _ _ _ _ _ _ _ _ _ _ G (by omega) (by omega) (lv_sub hl [2, 3, 4, 5, 6] rfl)
  · skip
    refine lv_aload_n C.1 C.2.1 dL_law_1008 rfl (lv_at hl 1 rfl) ?_
    refine lv_aload_n C.1 C.2.1 dL_law_1009 rfl (lv_at hl 0 rfl) ?_
    refine lv_iload C.1 C.2.1 dL_law_1010 (lv_at hl 4 rfl) ?_
    refine z_iconst C dL_law_1012 ?_
    refine z_iadd C dL_law_1013 ?_
    refine zd_ld C Z G q1 (x.toNat + 1) e1 (by omega) (by omega) dL_law_1014 ?_
    refine lv_aload_n C.1 C.2.1 dL_law_1015 rfl (lv_at hl 0 rfl) ?_
    refine lv_iload C.1 C.2.1 dL_law_1016 (lv_at hl 4 rfl) ?_
    refine z_iconst C dL_law_1018 ?_
    refine z_iadd C dL_law_1019 ?_
    refine zd_ld C Z G q2 (x.toNat + 2) e2 (by omega) (by omega) dL_law_1020 ?_
    refine lv_aload_n C.1 C.2.1 dL_law_1021 rfl (lv_at hl 0 rfl) ?_
    refine lv_iload C.1 C.2.1 dL_law_1022 (lv_at hl 4 rfl) ?_
    refine z_iconst C dL_law_1024 ?_
    refine z_iadd C dL_law_1025 ?_
    refine zd_ld C Z G q3 (x.toNat + 3) e3 (by omega) (by omega) dL_law_1026 ?_
    refine zd_nz C (by omega) dL_law_1027 dL_law_1030 dL_law_1031 dL_law_1034 ?_
    refine lv_aload_n C.1 C.2.1 dL_law_1035 rfl (lv_at hl 0 rfl) ?_
    refine lv_iload C.1 C.2.1 dL_law_1036 (lv_at hl 4 rfl) ?_
    refine z_iconst C dL_law_1038 ?_
    refine z_iadd C dL_law_1039 ?_
    refine zd_ld C Z G q4 (x.toNat + 4) e4 (by omega) (by omega) dL_law_1040 ?_
    refine lv_aload_n C.1 C.2.1 dL_law_1041 rfl (lv_at hl 3 rfl) ?_
    refine zd_W (as := [.ref o, .int (iZ (q1)), .int (iZ (q2)), .int (iZ (zB (decide (q3 ≠ 0)))), .int (iZ (q4)), .ref w]) C Z Y G (c_L_bezout_badc l hlq D cJ o a _ _ _ _ (q1) (q2) (decide (q3 ≠ 0)) (q4) (by first | assumption | omega) (by first | assumption | omega) (by first | assumption | omega) (by first | assumption | omega) w _ _) ml_L_223 ⟨Nat.le_of_ble_eq_true rfl, Nat.le_of_ble_eq_true rfl⟩ ⟨by show cells + 0 + 1 ≤ 665281; omega, by show slots + 0 + 6 ≤ 7105636; omega⟩ hl (Nat.le_of_ble_eq_true rfl) rfl dL_law_1042 (fun H locs G => ?_)
    refine lv_istore (lv' := [(5, .int (iZ (1))), (0, .ref t), (1, .ref o), (2, .ref u), (3, .ref w), (4, .int (iZ (x)))]) C.1 C.2.1 dL_law_1045 hl (by decide) rfl (fun ls hl => ?_)
    refine lv_aload_n C.1 C.2.1 dL_law_1047 rfl (lv_at hl 3 rfl) ?_
    refine lv_aload_n C.1 C.2.1 dL_law_1048 rfl (lv_at hl 1 rfl) ?_
    refine lv_iload C.1 C.2.1 dL_law_1049 (lv_at hl 5 rfl) ?_
    refine z_iconst C dL_law_1051 ?_
    refine z_iadd C dL_law_1052 ?_
    refine zd_ld C Z G q1 (x.toNat + 1) e1 (by omega) (by omega) dL_law_1053 ?_
    refine lv_aload_n C.1 C.2.1 dL_law_1054 rfl (lv_at hl 1 rfl) ?_
    refine lv_iload C.1 C.2.1 dL_law_1055 (lv_at hl 5 rfl) ?_
    refine z_iconst C dL_law_1057 ?_
    refine z_iadd C dL_law_1058 ?_
    refine zd_ld C Z G q2 (x.toNat + 2) e2 (by omega) (by omega) dL_law_1059 ?_
    refine lv_aload_n C.1 C.2.1 dL_law_1060 rfl (lv_at hl 1 rfl) ?_
    refine lv_iload C.1 C.2.1 dL_law_1061 (lv_at hl 5 rfl) ?_
    refine z_iconst C dL_law_1063 ?_
    refine z_iadd C dL_law_1064 ?_
    refine zd_ld C Z G q3 (x.toNat + 3) e3 (by omega) (by omega) dL_law_1065 ?_
    refine zd_nz C (by omega) dL_law_1066 dL_law_1069 dL_law_1070 dL_law_1073 ?_
    refine lv_aload_n C.1 C.2.1 dL_law_1074 rfl (lv_at hl 1 rfl) ?_
    refine lv_iload C.1 C.2.1 dL_law_1075 (lv_at hl 5 rfl) ?_
    refine z_iconst C dL_law_1077 ?_
    refine z_iadd C dL_law_1078 ?_
    refine zd_ld C Z G q4 (x.toNat + 4) e4 (by omega) (by omega) dL_law_1079 ?_
    refine zd_M (as := [.int (iZ (q1)), .int (iZ (q2)), .int (iZ (zB (decide (q3 ≠ 0)))), .int (iZ (q4))]) C Y G (c_X5_bezout_bad1 l D cJ u v _ _ _ _ _ (q1) (q2) (decide (q3 ≠ 0)) (q4) (by first | assumption | omega) (by first | assumption | omega) (by first | assumption | omega) (by first | assumption | omega)) ml_L_225 rfl ⟨Nat.le_of_ble_eq_true rfl, Nat.le_of_ble_eq_true rfl⟩ ⟨by show cells + 1 + 0 ≤ 665281; omega, by show slots + 6 + 0 ≤ 7105636; omega⟩ hl (Nat.le_of_ble_eq_true rfl) rfl dL_law_1080 (fun y9 H locs hy9 G => ?_)
    subst hy9
    refine lv_istore (lv' := [(6, _), (5, .int (iZ (1))), (0, .ref t), (1, .ref o), (2, .ref u), (3, .ref w), (4, .int (iZ (x)))]) C.1 C.2.1 dL_law_1083 hl (by decide) rfl (fun ls hl => ?_)
    refine lv_goto (tgt := 2200) C.1 C.2.1 dL_law_1085 (by decide) ?_
    exact kk _ _ _ _ _ _ _ _ _ _ _ _ G (by omega) (by omega) (lv_sub hl [2, 3, 4, 5, 6] rfl)
set_option maxHeartbeats 4000000 in
set_option maxRecDepth 100000 in
theorem lk_16 (hlq : l.stackTraces = false) (C : CallFix p m c0 cL_law 7 s args T0 RL) (Z : zLw D cB t N g s) (Y : zAd o a u v w s) {c : Nat → Nat} {ac re kn : Int32} {th : Int} {n : Int64} {sv : Value} {H : Heap} {locs : List Loc} {ls : Array Slot} {cells slots : Nat} (G : zG D cJ o a u v w c [.int ac, .int re, .int kn] c [.int (iZ th), .int ac, .int re, .int kn] n sv s H locs) (x : Int) (hx : 0 ≤ x ∧ x + 5 ≤ (N : Int)) (hf : cells + 150 ≤ 665281 ∧ slots + 75000 ≤ 7105636) (hl : lv_has ls 7 [(0, .ref t), (1, .ref o), (2, .ref u), (3, .ref w), (4, .int (iZ (x)))])
    (kk : zNx p l e s m args below meth c0 D cJ t o a u v w x cells slots Qw 2200) : W p l e room_1 s m args below meth c0 H locs cells slots Qw (F0 m 1088 ls []) := by
  have hc := G.1.2.2.2
  obtain ⟨q1, e1⟩ : ∃ z, g (x.toNat + 1) = z := ⟨_, rfl⟩
  have r1 : -2147483648 ≤ q1 ∧ q1 ≤ 2147483647 := e1 ▸ Z.2.2.2.2.2.1 _
  obtain ⟨q2, e2⟩ : ∃ z, g (x.toNat + 2) = z := ⟨_, rfl⟩
  have r2 : -2147483648 ≤ q2 ∧ q2 ≤ 2147483647 := e2 ▸ Z.2.2.2.2.2.1 _
  by_cases hcel : (0 ≤ q1 ∧ q1 ≤ 5) ∧ (0 ≤ q2 ∧ q2 ≤ 5)
  · skip
    refine lv_aload_n C.1 C.2.1 dL_law_1088 rfl (lv_at hl 1 rfl) ?_
    refine lv_aload_n C.1 C.2.1 dL_law_1089 rfl (lv_at hl 0 rfl) ?_
    refine lv_iload C.1 C.2.1 dL_law_1090 (lv_at hl 4 rfl) ?_
    refine z_iconst C dL_law_1092 ?_
    refine z_iadd C dL_law_1093 ?_
    refine zd_ld C Z G q1 (x.toNat + 1) e1 (by omega) (by omega) dL_law_1094 ?_
    refine lv_aload_n C.1 C.2.1 dL_law_1095 rfl (lv_at hl 0 rfl) ?_
    refine lv_iload C.1 C.2.1 dL_law_1096 (lv_at hl 4 rfl) ?_
    refine z_iconst C dL_law_1098 ?_
    refine z_iadd C dL_law_1099 ?_
    refine zd_ld C Z G q2 (x.toNat + 2) e2 (by omega) (by omega) dL_law_1100 ?_
    refine lv_aload_n C.1 C.2.1 dL_law_1101 rfl (lv_at hl 3 rfl) ?_
    refine zd_W (as := [.ref o, .int (iZ (q1)), .int (iZ (q2)), .ref w]) C Z Y G (c_L_derive l D cJ o a _ _ _ _ (q1) (q2) (by first | assumption | omega) (by first | assumption | omega) w _ _) ml_L_226 ⟨Nat.le_of_ble_eq_true rfl, Nat.le_of_ble_eq_true rfl⟩ ⟨by show cells + 0 + 0 ≤ 665281; omega, by show slots + 0 + 0 ≤ 7105636; omega⟩ hl (Nat.le_of_ble_eq_true rfl) rfl dL_law_1102 (fun H locs G => ?_)
    refine lv_istore (lv' := [(5, .int (iZ (0))), (0, .ref t), (1, .ref o), (2, .ref u), (3, .ref w), (4, .int (iZ (x)))]) C.1 C.2.1 dL_law_1105 hl (by decide) rfl (fun ls hl => ?_)
    refine lv_aload_n C.1 C.2.1 dL_law_1107 rfl (lv_at hl 3 rfl) ?_
    refine lv_aload_n C.1 C.2.1 dL_law_1108 rfl (lv_at hl 1 rfl) ?_
    refine lv_iload C.1 C.2.1 dL_law_1109 (lv_at hl 5 rfl) ?_
    refine z_iconst C dL_law_1111 ?_
    refine z_iadd C dL_law_1112 ?_
    refine zd_ld C Z G q1 (x.toNat + 1) e1 (by omega) (by omega) dL_law_1113 ?_
    refine lv_aload_n C.1 C.2.1 dL_law_1114 rfl (lv_at hl 1 rfl) ?_
    refine lv_iload C.1 C.2.1 dL_law_1115 (lv_at hl 5 rfl) ?_
    refine z_iconst C dL_law_1117 ?_
    refine z_iadd C dL_law_1118 ?_
    refine zd_ld C Z G q2 (x.toNat + 2) e2 (by omega) (by omega) dL_law_1119 ?_
    refine zd_M (as := [.int (iZ (q1)), .int (iZ (q2))]) C Y G (c_X5_derive l D cJ u v _ _ _ _ _ (q1) (q2) (by first | assumption | omega) (by first | assumption | omega)) ml_L_228 rfl ⟨Nat.le_of_ble_eq_true rfl, Nat.le_of_ble_eq_true rfl⟩ ⟨by show cells + 0 + 0 ≤ 665281; omega, by show slots + 0 + 0 ≤ 7105636; omega⟩ hl (Nat.le_of_ble_eq_true rfl) rfl dL_law_1120 (fun y9 H locs hy9 G => ?_)
    subst hy9
    refine lv_istore (lv' := [(6, _), (5, .int (iZ (0))), (0, .ref t), (1, .ref o), (2, .ref u), (3, .ref w), (4, .int (iZ (x)))]) C.1 C.2.1 dL_law_1123 hl (by decide) rfl (fun ls hl => ?_)
    refine lv_goto (tgt := 2200) C.1 C.2.1 dL_law_1125 (by decide) ?_
    rw [dv_eq (hc _)] at G
    exact kk _ _ _ _ _ _ _ _ _ _ _ _ G (by omega) (by omega) (lv_sub hl [2, 3, 4, 5, 6] rfl)
  · skip
    refine lv_aload_n C.1 C.2.1 dL_law_1088 rfl (lv_at hl 1 rfl) ?_
    refine lv_aload_n C.1 C.2.1 dL_law_1089 rfl (lv_at hl 0 rfl) ?_
    refine lv_iload C.1 C.2.1 dL_law_1090 (lv_at hl 4 rfl) ?_
    refine z_iconst C dL_law_1092 ?_
    refine z_iadd C dL_law_1093 ?_
    refine zd_ld C Z G q1 (x.toNat + 1) e1 (by omega) (by omega) dL_law_1094 ?_
    refine lv_aload_n C.1 C.2.1 dL_law_1095 rfl (lv_at hl 0 rfl) ?_
    refine lv_iload C.1 C.2.1 dL_law_1096 (lv_at hl 4 rfl) ?_
    refine z_iconst C dL_law_1098 ?_
    refine z_iadd C dL_law_1099 ?_
    refine zd_ld C Z G q2 (x.toNat + 2) e2 (by omega) (by omega) dL_law_1100 ?_
    refine lv_aload_n C.1 C.2.1 dL_law_1101 rfl (lv_at hl 3 rfl) ?_
    refine zd_W (as := [.ref o, .int (iZ (q1)), .int (iZ (q2)), .ref w]) C Z Y G (c_L_derive_badc l hlq D cJ o a _ _ _ _ (q1) (q2) (by first | assumption | omega) (by first | assumption | omega) (by first | assumption | omega) w _ _) ml_L_226 ⟨Nat.le_of_ble_eq_true rfl, Nat.le_of_ble_eq_true rfl⟩ ⟨by show cells + 0 + 1 ≤ 665281; omega, by show slots + 0 + 6 ≤ 7105636; omega⟩ hl (Nat.le_of_ble_eq_true rfl) rfl dL_law_1102 (fun H locs G => ?_)
    refine lv_istore (lv' := [(5, .int (iZ (1))), (0, .ref t), (1, .ref o), (2, .ref u), (3, .ref w), (4, .int (iZ (x)))]) C.1 C.2.1 dL_law_1105 hl (by decide) rfl (fun ls hl => ?_)
    refine lv_aload_n C.1 C.2.1 dL_law_1107 rfl (lv_at hl 3 rfl) ?_
    refine lv_aload_n C.1 C.2.1 dL_law_1108 rfl (lv_at hl 1 rfl) ?_
    refine lv_iload C.1 C.2.1 dL_law_1109 (lv_at hl 5 rfl) ?_
    refine z_iconst C dL_law_1111 ?_
    refine z_iadd C dL_law_1112 ?_
    refine zd_ld C Z G q1 (x.toNat + 1) e1 (by omega) (by omega) dL_law_1113 ?_
    refine lv_aload_n C.1 C.2.1 dL_law_1114 rfl (lv_at hl 1 rfl) ?_
    refine lv_iload C.1 C.2.1 dL_law_1115 (lv_at hl 5 rfl) ?_
    refine z_iconst C dL_law_1117 ?_
    refine z_iadd C dL_law_1118 ?_
    refine zd_ld C Z G q2 (x.toNat + 2) e2 (by omega) (by omega) dL_law_1119 ?_
    refine zd_M (as := [.int (iZ (q1)), .int (iZ (q2))]) C Y G (c_X5_derive_bad1 l D cJ u v _ _ _ _ _ (q1) (q2) (by first | assumption | omega) (by first | assumption | omega) (by first | assumption | omega)) ml_L_228 rfl ⟨Nat.le_of_ble_eq_true rfl, Nat.le_of_ble_eq_true rfl⟩ ⟨by show cells + 1 + 0 ≤ 665281; omega, by show slots + 6 + 0 ≤ 7105636; omega⟩ hl (Nat.le_of_ble_eq_true rfl) rfl dL_law_1120 (fun y9 H locs hy9 G => ?_)
    subst hy9
    refine lv_istore (lv' := [(6, _), (5, .int (iZ (1))), (0, .ref t), (1, .ref o), (2, .ref u), (3, .ref w), (4, .int (iZ (x)))]) C.1 C.2.1 dL_law_1123 hl (by decide) rfl (fun ls hl => ?_)
    refine lv_goto (tgt := 2200) C.1 C.2.1 dL_law_1125 (by decide) ?_
    exact kk _ _ _ _ _ _ _ _ _ _ _ _ G (by omega) (by omega) (lv_sub hl [2, 3, 4, 5, 6] rfl)
set_option maxHeartbeats 4000000 in
set_option maxRecDepth 100000 in
theorem lk_17 (hlq : l.stackTraces = false) (C : CallFix p m c0 cL_law 7 s args T0 RL) (Z : zLw D cB t N g s) (Y : zAd o a u v w s) {c : Nat → Nat} {ac re kn : Int32} {th : Int} {n : Int64} {sv : Value} {H : Heap} {locs : List Loc} {ls : Array Slot} {cells slots : Nat} (G : zG D cJ o a u v w c [.int ac, .int re, .int kn] c [.int (iZ th), .int ac, .int re, .int kn] n sv s H locs) (x : Int) (hx : 0 ≤ x ∧ x + 5 ≤ (N : Int)) (hf : cells + 150 ≤ 665281 ∧ slots + 75000 ≤ 7105636) (hl : lv_has ls 7 [(0, .ref t), (1, .ref o), (2, .ref u), (3, .ref w), (4, .int (iZ (x)))])
    (kk : zNx p l e s m args below meth c0 D cJ t o a u v w x cells slots Qw 2200) : W p l e room_1 s m args below meth c0 H locs cells slots Qw (F0 m 1128 ls []) := by
  have hc := G.1.2.2.2
  obtain ⟨q1, e1⟩ : ∃ z, g (x.toNat + 1) = z := ⟨_, rfl⟩
  have r1 : -2147483648 ≤ q1 ∧ q1 ≤ 2147483647 := e1 ▸ Z.2.2.2.2.2.1 _
  obtain ⟨q2, e2⟩ : ∃ z, g (x.toNat + 2) = z := ⟨_, rfl⟩
  have r2 : -2147483648 ≤ q2 ∧ q2 ≤ 2147483647 := e2 ▸ Z.2.2.2.2.2.1 _
  by_cases hcel : (0 ≤ q1 ∧ q1 ≤ 5) ∧ (0 ≤ q2 ∧ q2 ≤ 5)
  · skip
    refine lv_aload_n C.1 C.2.1 dL_law_1128 rfl (lv_at hl 1 rfl) ?_
    refine lv_aload_n C.1 C.2.1 dL_law_1129 rfl (lv_at hl 0 rfl) ?_
    refine lv_iload C.1 C.2.1 dL_law_1130 (lv_at hl 4 rfl) ?_
    refine z_iconst C dL_law_1132 ?_
    refine z_iadd C dL_law_1133 ?_
    refine zd_ld C Z G q1 (x.toNat + 1) e1 (by omega) (by omega) dL_law_1134 ?_
    refine lv_aload_n C.1 C.2.1 dL_law_1135 rfl (lv_at hl 0 rfl) ?_
    refine lv_iload C.1 C.2.1 dL_law_1136 (lv_at hl 4 rfl) ?_
    refine z_iconst C dL_law_1138 ?_
    refine z_iadd C dL_law_1139 ?_
    refine zd_ld C Z G q2 (x.toNat + 2) e2 (by omega) (by omega) dL_law_1140 ?_
    refine lv_aload_n C.1 C.2.1 dL_law_1141 rfl (lv_at hl 3 rfl) ?_
    refine zd_W (as := [.ref o, .int (iZ (q1)), .int (iZ (q2)), .ref w]) C Z Y G (c_L_root l D cJ o a _ _ _ _ (q1) (q2) (by first | assumption | omega) (by first | assumption | omega) w _ _) ml_L_229 ⟨Nat.le_of_ble_eq_true rfl, Nat.le_of_ble_eq_true rfl⟩ ⟨by show cells + 0 + 0 ≤ 665281; omega, by show slots + 0 + 0 ≤ 7105636; omega⟩ hl (Nat.le_of_ble_eq_true rfl) rfl dL_law_1142 (fun H locs G => ?_)
    refine lv_istore (lv' := [(5, .int (iZ (0))), (0, .ref t), (1, .ref o), (2, .ref u), (3, .ref w), (4, .int (iZ (x)))]) C.1 C.2.1 dL_law_1145 hl (by decide) rfl (fun ls hl => ?_)
    refine lv_aload_n C.1 C.2.1 dL_law_1147 rfl (lv_at hl 3 rfl) ?_
    refine lv_aload_n C.1 C.2.1 dL_law_1148 rfl (lv_at hl 1 rfl) ?_
    refine lv_iload C.1 C.2.1 dL_law_1149 (lv_at hl 5 rfl) ?_
    refine z_iconst C dL_law_1151 ?_
    refine z_iadd C dL_law_1152 ?_
    refine zd_ld C Z G q1 (x.toNat + 1) e1 (by omega) (by omega) dL_law_1153 ?_
    refine lv_aload_n C.1 C.2.1 dL_law_1154 rfl (lv_at hl 1 rfl) ?_
    refine lv_iload C.1 C.2.1 dL_law_1155 (lv_at hl 5 rfl) ?_
    refine z_iconst C dL_law_1157 ?_
    refine z_iadd C dL_law_1158 ?_
    refine zd_ld C Z G q2 (x.toNat + 2) e2 (by omega) (by omega) dL_law_1159 ?_
    refine zd_M (as := [.int (iZ (q1)), .int (iZ (q2))]) C Y G (c_X5_root l D cJ u v _ _ _ _ _ (q1) (q2) (by first | assumption | omega) (by first | assumption | omega)) ml_L_231 rfl ⟨Nat.le_of_ble_eq_true rfl, Nat.le_of_ble_eq_true rfl⟩ ⟨by show cells + 0 + 0 ≤ 665281; omega, by show slots + 0 + 0 ≤ 7105636; omega⟩ hl (Nat.le_of_ble_eq_true rfl) rfl dL_law_1160 (fun y9 H locs hy9 G => ?_)
    subst hy9
    refine lv_istore (lv' := [(6, _), (5, .int (iZ (0))), (0, .ref t), (1, .ref o), (2, .ref u), (3, .ref w), (4, .int (iZ (x)))]) C.1 C.2.1 dL_law_1163 hl (by decide) rfl (fun ls hl => ?_)
    refine lv_goto (tgt := 2200) C.1 C.2.1 dL_law_1165 (by decide) ?_
    rw [wE_eq (hc _)] at G
    exact kk _ _ _ _ _ _ _ _ _ _ _ _ G (by omega) (by omega) (lv_sub hl [2, 3, 4, 5, 6] rfl)
  · skip
    refine lv_aload_n C.1 C.2.1 dL_law_1128 rfl (lv_at hl 1 rfl) ?_
    refine lv_aload_n C.1 C.2.1 dL_law_1129 rfl (lv_at hl 0 rfl) ?_
    refine lv_iload C.1 C.2.1 dL_law_1130 (lv_at hl 4 rfl) ?_
    refine z_iconst C dL_law_1132 ?_
    refine z_iadd C dL_law_1133 ?_
    refine zd_ld C Z G q1 (x.toNat + 1) e1 (by omega) (by omega) dL_law_1134 ?_
    refine lv_aload_n C.1 C.2.1 dL_law_1135 rfl (lv_at hl 0 rfl) ?_
    refine lv_iload C.1 C.2.1 dL_law_1136 (lv_at hl 4 rfl) ?_
    refine z_iconst C dL_law_1138 ?_
    refine z_iadd C dL_law_1139 ?_
    refine zd_ld C Z G q2 (x.toNat + 2) e2 (by omega) (by omega) dL_law_1140 ?_
    refine lv_aload_n C.1 C.2.1 dL_law_1141 rfl (lv_at hl 3 rfl) ?_
    refine zd_W (as := [.ref o, .int (iZ (q1)), .int (iZ (q2)), .ref w]) C Z Y G (c_L_root_badc l hlq D cJ o a _ _ _ _ (q1) (q2) (by first | assumption | omega) (by first | assumption | omega) (by first | assumption | omega) w _ _) ml_L_229 ⟨Nat.le_of_ble_eq_true rfl, Nat.le_of_ble_eq_true rfl⟩ ⟨by show cells + 0 + 1 ≤ 665281; omega, by show slots + 0 + 6 ≤ 7105636; omega⟩ hl (Nat.le_of_ble_eq_true rfl) rfl dL_law_1142 (fun H locs G => ?_)
    refine lv_istore (lv' := [(5, .int (iZ (1))), (0, .ref t), (1, .ref o), (2, .ref u), (3, .ref w), (4, .int (iZ (x)))]) C.1 C.2.1 dL_law_1145 hl (by decide) rfl (fun ls hl => ?_)
    refine lv_aload_n C.1 C.2.1 dL_law_1147 rfl (lv_at hl 3 rfl) ?_
    refine lv_aload_n C.1 C.2.1 dL_law_1148 rfl (lv_at hl 1 rfl) ?_
    refine lv_iload C.1 C.2.1 dL_law_1149 (lv_at hl 5 rfl) ?_
    refine z_iconst C dL_law_1151 ?_
    refine z_iadd C dL_law_1152 ?_
    refine zd_ld C Z G q1 (x.toNat + 1) e1 (by omega) (by omega) dL_law_1153 ?_
    refine lv_aload_n C.1 C.2.1 dL_law_1154 rfl (lv_at hl 1 rfl) ?_
    refine lv_iload C.1 C.2.1 dL_law_1155 (lv_at hl 5 rfl) ?_
    refine z_iconst C dL_law_1157 ?_
    refine z_iadd C dL_law_1158 ?_
    refine zd_ld C Z G q2 (x.toNat + 2) e2 (by omega) (by omega) dL_law_1159 ?_
    refine zd_M (as := [.int (iZ (q1)), .int (iZ (q2))]) C Y G (c_X5_root_bad1 l D cJ u v _ _ _ _ _ (q1) (q2) (by first | assumption | omega) (by first | assumption | omega) (by first | assumption | omega)) ml_L_231 rfl ⟨Nat.le_of_ble_eq_true rfl, Nat.le_of_ble_eq_true rfl⟩ ⟨by show cells + 1 + 0 ≤ 665281; omega, by show slots + 6 + 0 ≤ 7105636; omega⟩ hl (Nat.le_of_ble_eq_true rfl) rfl dL_law_1160 (fun y9 H locs hy9 G => ?_)
    subst hy9
    refine lv_istore (lv' := [(6, _), (5, .int (iZ (1))), (0, .ref t), (1, .ref o), (2, .ref u), (3, .ref w), (4, .int (iZ (x)))]) C.1 C.2.1 dL_law_1163 hl (by decide) rfl (fun ls hl => ?_)
    refine lv_goto (tgt := 2200) C.1 C.2.1 dL_law_1165 (by decide) ?_
    exact kk _ _ _ _ _ _ _ _ _ _ _ _ G (by omega) (by omega) (lv_sub hl [2, 3, 4, 5, 6] rfl)
set_option maxHeartbeats 4000000 in
set_option maxRecDepth 100000 in
theorem lk_18 (hlq : l.stackTraces = false) (C : CallFix p m c0 cL_law 7 s args T0 RL) (Z : zLw D cB t N g s) (Y : zAd o a u v w s) {c : Nat → Nat} {ac re kn : Int32} {th : Int} {n : Int64} {sv : Value} {H : Heap} {locs : List Loc} {ls : Array Slot} {cells slots : Nat} (G : zG D cJ o a u v w c [.int ac, .int re, .int kn] c [.int (iZ th), .int ac, .int re, .int kn] n sv s H locs) (x : Int) (hx : 0 ≤ x ∧ x + 5 ≤ (N : Int)) (hf : cells + 150 ≤ 665281 ∧ slots + 75000 ≤ 7105636) (hl : lv_has ls 7 [(0, .ref t), (1, .ref o), (2, .ref u), (3, .ref w), (4, .int (iZ (x)))])
    (kk : zNx p l e s m args below meth c0 D cJ t o a u v w x cells slots Qw 2200) : W p l e room_1 s m args below meth c0 H locs cells slots Qw (F0 m 1168 ls []) := by
  have hc := G.1.2.2.2
  obtain ⟨q1, e1⟩ : ∃ z, g (x.toNat + 1) = z := ⟨_, rfl⟩
  have r1 : -2147483648 ≤ q1 ∧ q1 ≤ 2147483647 := e1 ▸ Z.2.2.2.2.2.1 _
  obtain ⟨q2, e2⟩ : ∃ z, g (x.toNat + 2) = z := ⟨_, rfl⟩
  have r2 : -2147483648 ≤ q2 ∧ q2 ≤ 2147483647 := e2 ▸ Z.2.2.2.2.2.1 _
  by_cases hcel : (0 ≤ q1 ∧ q1 ≤ 5) ∧ (0 ≤ q2 ∧ q2 ≤ 5)
  · skip
    refine lv_aload_n C.1 C.2.1 dL_law_1168 rfl (lv_at hl 1 rfl) ?_
    refine lv_aload_n C.1 C.2.1 dL_law_1169 rfl (lv_at hl 0 rfl) ?_
    refine lv_iload C.1 C.2.1 dL_law_1170 (lv_at hl 4 rfl) ?_
    refine z_iconst C dL_law_1172 ?_
    refine z_iadd C dL_law_1173 ?_
    refine zd_ld C Z G q1 (x.toNat + 1) e1 (by omega) (by omega) dL_law_1174 ?_
    refine lv_aload_n C.1 C.2.1 dL_law_1175 rfl (lv_at hl 0 rfl) ?_
    refine lv_iload C.1 C.2.1 dL_law_1176 (lv_at hl 4 rfl) ?_
    refine z_iconst C dL_law_1178 ?_
    refine z_iadd C dL_law_1179 ?_
    refine zd_ld C Z G q2 (x.toNat + 2) e2 (by omega) (by omega) dL_law_1180 ?_
    refine lv_aload_n C.1 C.2.1 dL_law_1181 rfl (lv_at hl 3 rfl) ?_
    refine zd_W (as := [.ref o, .int (iZ (q1)), .int (iZ (q2)), .ref w]) C Z Y G (c_L_turn l D cJ o a _ _ _ _ (q1) (q2) (by first | assumption | omega) (by first | assumption | omega) w _ _) ml_L_232 ⟨Nat.le_of_ble_eq_true rfl, Nat.le_of_ble_eq_true rfl⟩ ⟨by show cells + 0 + 0 ≤ 665281; omega, by show slots + 0 + 0 ≤ 7105636; omega⟩ hl (Nat.le_of_ble_eq_true rfl) rfl dL_law_1182 (fun H locs G => ?_)
    refine lv_istore (lv' := [(5, .int (iZ (0))), (0, .ref t), (1, .ref o), (2, .ref u), (3, .ref w), (4, .int (iZ (x)))]) C.1 C.2.1 dL_law_1185 hl (by decide) rfl (fun ls hl => ?_)
    refine lv_aload_n C.1 C.2.1 dL_law_1187 rfl (lv_at hl 3 rfl) ?_
    refine lv_aload_n C.1 C.2.1 dL_law_1188 rfl (lv_at hl 1 rfl) ?_
    refine lv_iload C.1 C.2.1 dL_law_1189 (lv_at hl 5 rfl) ?_
    refine z_iconst C dL_law_1191 ?_
    refine z_iadd C dL_law_1192 ?_
    refine zd_ld C Z G q1 (x.toNat + 1) e1 (by omega) (by omega) dL_law_1193 ?_
    refine lv_aload_n C.1 C.2.1 dL_law_1194 rfl (lv_at hl 1 rfl) ?_
    refine lv_iload C.1 C.2.1 dL_law_1195 (lv_at hl 5 rfl) ?_
    refine z_iconst C dL_law_1197 ?_
    refine z_iadd C dL_law_1198 ?_
    refine zd_ld C Z G q2 (x.toNat + 2) e2 (by omega) (by omega) dL_law_1199 ?_
    refine zd_M (as := [.int (iZ (q1)), .int (iZ (q2))]) C Y G (c_X5_turn l D cJ u v _ _ _ _ _ (q1) (q2) (by first | assumption | omega) (by first | assumption | omega)) ml_L_234 rfl ⟨Nat.le_of_ble_eq_true rfl, Nat.le_of_ble_eq_true rfl⟩ ⟨by show cells + 0 + 0 ≤ 665281; omega, by show slots + 0 + 0 ≤ 7105636; omega⟩ hl (Nat.le_of_ble_eq_true rfl) rfl dL_law_1200 (fun y9 H locs hy9 G => ?_)
    subst hy9
    refine lv_istore (lv' := [(6, _), (5, .int (iZ (0))), (0, .ref t), (1, .ref o), (2, .ref u), (3, .ref w), (4, .int (iZ (x)))]) C.1 C.2.1 dL_law_1203 hl (by decide) rfl (fun ls hl => ?_)
    refine lv_goto (tgt := 2200) C.1 C.2.1 dL_law_1205 (by decide) ?_
    rw [tu_eq] at G
    exact kk _ _ _ _ _ _ _ _ _ _ _ _ G (by omega) (by omega) (lv_sub hl [2, 3, 4, 5, 6] rfl)
  · skip
    refine lv_aload_n C.1 C.2.1 dL_law_1168 rfl (lv_at hl 1 rfl) ?_
    refine lv_aload_n C.1 C.2.1 dL_law_1169 rfl (lv_at hl 0 rfl) ?_
    refine lv_iload C.1 C.2.1 dL_law_1170 (lv_at hl 4 rfl) ?_
    refine z_iconst C dL_law_1172 ?_
    refine z_iadd C dL_law_1173 ?_
    refine zd_ld C Z G q1 (x.toNat + 1) e1 (by omega) (by omega) dL_law_1174 ?_
    refine lv_aload_n C.1 C.2.1 dL_law_1175 rfl (lv_at hl 0 rfl) ?_
    refine lv_iload C.1 C.2.1 dL_law_1176 (lv_at hl 4 rfl) ?_
    refine z_iconst C dL_law_1178 ?_
    refine z_iadd C dL_law_1179 ?_
    refine zd_ld C Z G q2 (x.toNat + 2) e2 (by omega) (by omega) dL_law_1180 ?_
    refine lv_aload_n C.1 C.2.1 dL_law_1181 rfl (lv_at hl 3 rfl) ?_
    refine zd_W (as := [.ref o, .int (iZ (q1)), .int (iZ (q2)), .ref w]) C Z Y G (c_L_turn_badc l hlq D cJ o a _ _ _ _ (q1) (q2) (by first | assumption | omega) (by first | assumption | omega) (by first | assumption | omega) w _ _) ml_L_232 ⟨Nat.le_of_ble_eq_true rfl, Nat.le_of_ble_eq_true rfl⟩ ⟨by show cells + 0 + 1 ≤ 665281; omega, by show slots + 0 + 6 ≤ 7105636; omega⟩ hl (Nat.le_of_ble_eq_true rfl) rfl dL_law_1182 (fun H locs G => ?_)
    refine lv_istore (lv' := [(5, .int (iZ (1))), (0, .ref t), (1, .ref o), (2, .ref u), (3, .ref w), (4, .int (iZ (x)))]) C.1 C.2.1 dL_law_1185 hl (by decide) rfl (fun ls hl => ?_)
    refine lv_aload_n C.1 C.2.1 dL_law_1187 rfl (lv_at hl 3 rfl) ?_
    refine lv_aload_n C.1 C.2.1 dL_law_1188 rfl (lv_at hl 1 rfl) ?_
    refine lv_iload C.1 C.2.1 dL_law_1189 (lv_at hl 5 rfl) ?_
    refine z_iconst C dL_law_1191 ?_
    refine z_iadd C dL_law_1192 ?_
    refine zd_ld C Z G q1 (x.toNat + 1) e1 (by omega) (by omega) dL_law_1193 ?_
    refine lv_aload_n C.1 C.2.1 dL_law_1194 rfl (lv_at hl 1 rfl) ?_
    refine lv_iload C.1 C.2.1 dL_law_1195 (lv_at hl 5 rfl) ?_
    refine z_iconst C dL_law_1197 ?_
    refine z_iadd C dL_law_1198 ?_
    refine zd_ld C Z G q2 (x.toNat + 2) e2 (by omega) (by omega) dL_law_1199 ?_
    refine zd_M (as := [.int (iZ (q1)), .int (iZ (q2))]) C Y G (c_X5_turn_bad1 l D cJ u v _ _ _ _ _ (q1) (q2) (by first | assumption | omega) (by first | assumption | omega) (by first | assumption | omega)) ml_L_234 rfl ⟨Nat.le_of_ble_eq_true rfl, Nat.le_of_ble_eq_true rfl⟩ ⟨by show cells + 1 + 0 ≤ 665281; omega, by show slots + 6 + 0 ≤ 7105636; omega⟩ hl (Nat.le_of_ble_eq_true rfl) rfl dL_law_1200 (fun y9 H locs hy9 G => ?_)
    subst hy9
    refine lv_istore (lv' := [(6, _), (5, .int (iZ (1))), (0, .ref t), (1, .ref o), (2, .ref u), (3, .ref w), (4, .int (iZ (x)))]) C.1 C.2.1 dL_law_1203 hl (by decide) rfl (fun ls hl => ?_)
    refine lv_goto (tgt := 2200) C.1 C.2.1 dL_law_1205 (by decide) ?_
    exact kk _ _ _ _ _ _ _ _ _ _ _ _ G (by omega) (by omega) (lv_sub hl [2, 3, 4, 5, 6] rfl)
set_option maxHeartbeats 4000000 in
set_option maxRecDepth 100000 in
theorem lk_19 (hlq : l.stackTraces = false) (C : CallFix p m c0 cL_law 7 s args T0 RL) (Z : zLw D cB t N g s) (Y : zAd o a u v w s) {c : Nat → Nat} {ac re kn : Int32} {th : Int} {n : Int64} {sv : Value} {H : Heap} {locs : List Loc} {ls : Array Slot} {cells slots : Nat} (G : zG D cJ o a u v w c [.int ac, .int re, .int kn] c [.int (iZ th), .int ac, .int re, .int kn] n sv s H locs) (x : Int) (hx : 0 ≤ x ∧ x + 5 ≤ (N : Int)) (hf : cells + 150 ≤ 665281 ∧ slots + 75000 ≤ 7105636) (hl : lv_has ls 7 [(0, .ref t), (1, .ref o), (2, .ref u), (3, .ref w), (4, .int (iZ (x)))])
    (kk : zNx p l e s m args below meth c0 D cJ t o a u v w x cells slots Qw 2200) : W p l e room_1 s m args below meth c0 H locs cells slots Qw (F0 m 1208 ls []) := by
  have hc := G.1.2.2.2
  obtain ⟨q1, e1⟩ : ∃ z, g (x.toNat + 1) = z := ⟨_, rfl⟩
  have r1 : -2147483648 ≤ q1 ∧ q1 ≤ 2147483647 := e1 ▸ Z.2.2.2.2.2.1 _
  obtain ⟨q2, e2⟩ : ∃ z, g (x.toNat + 2) = z := ⟨_, rfl⟩
  have r2 : -2147483648 ≤ q2 ∧ q2 ≤ 2147483647 := e2 ▸ Z.2.2.2.2.2.1 _
  by_cases hcel : (0 ≤ q1 ∧ q1 ≤ 5) ∧ (0 ≤ q2 ∧ q2 ≤ 5)
  · skip
    refine lv_aload_n C.1 C.2.1 dL_law_1208 rfl (lv_at hl 1 rfl) ?_
    refine lv_aload_n C.1 C.2.1 dL_law_1209 rfl (lv_at hl 0 rfl) ?_
    refine lv_iload C.1 C.2.1 dL_law_1210 (lv_at hl 4 rfl) ?_
    refine z_iconst C dL_law_1212 ?_
    refine z_iadd C dL_law_1213 ?_
    refine zd_ld C Z G q1 (x.toNat + 1) e1 (by omega) (by omega) dL_law_1214 ?_
    refine lv_aload_n C.1 C.2.1 dL_law_1215 rfl (lv_at hl 0 rfl) ?_
    refine lv_iload C.1 C.2.1 dL_law_1216 (lv_at hl 4 rfl) ?_
    refine z_iconst C dL_law_1218 ?_
    refine z_iadd C dL_law_1219 ?_
    refine zd_ld C Z G q2 (x.toNat + 2) e2 (by omega) (by omega) dL_law_1220 ?_
    refine lv_aload_n C.1 C.2.1 dL_law_1221 rfl (lv_at hl 3 rfl) ?_
    refine zd_W (as := [.ref o, .int (iZ (q1)), .int (iZ (q2)), .ref w]) C Z Y G (c_L_move l D cJ o a _ _ _ _ (q1) (q2) (by first | assumption | omega) (by first | assumption | omega) w _ _) ml_L_235 ⟨Nat.le_of_ble_eq_true rfl, Nat.le_of_ble_eq_true rfl⟩ ⟨by show cells + 0 + 0 ≤ 665281; omega, by show slots + 0 + 0 ≤ 7105636; omega⟩ hl (Nat.le_of_ble_eq_true rfl) rfl dL_law_1222 (fun H locs G => ?_)
    refine lv_istore (lv' := [(5, .int (iZ (0))), (0, .ref t), (1, .ref o), (2, .ref u), (3, .ref w), (4, .int (iZ (x)))]) C.1 C.2.1 dL_law_1225 hl (by decide) rfl (fun ls hl => ?_)
    refine lv_aload_n C.1 C.2.1 dL_law_1227 rfl (lv_at hl 3 rfl) ?_
    refine lv_aload_n C.1 C.2.1 dL_law_1228 rfl (lv_at hl 1 rfl) ?_
    refine lv_iload C.1 C.2.1 dL_law_1229 (lv_at hl 5 rfl) ?_
    refine z_iconst C dL_law_1231 ?_
    refine z_iadd C dL_law_1232 ?_
    refine zd_ld C Z G q1 (x.toNat + 1) e1 (by omega) (by omega) dL_law_1233 ?_
    refine lv_aload_n C.1 C.2.1 dL_law_1234 rfl (lv_at hl 1 rfl) ?_
    refine lv_iload C.1 C.2.1 dL_law_1235 (lv_at hl 5 rfl) ?_
    refine z_iconst C dL_law_1237 ?_
    refine z_iadd C dL_law_1238 ?_
    refine zd_ld C Z G q2 (x.toNat + 2) e2 (by omega) (by omega) dL_law_1239 ?_
    refine zd_M (as := [.int (iZ (q1)), .int (iZ (q2))]) C Y G (c_X5_move l D cJ u v _ _ _ _ _ (q1) (q2) (by first | assumption | omega) (by first | assumption | omega)) ml_L_237 rfl ⟨Nat.le_of_ble_eq_true rfl, Nat.le_of_ble_eq_true rfl⟩ ⟨by show cells + 0 + 0 ≤ 665281; omega, by show slots + 0 + 0 ≤ 7105636; omega⟩ hl (Nat.le_of_ble_eq_true rfl) rfl dL_law_1240 (fun y9 H locs hy9 G => ?_)
    subst hy9
    refine lv_istore (lv' := [(6, _), (5, .int (iZ (0))), (0, .ref t), (1, .ref o), (2, .ref u), (3, .ref w), (4, .int (iZ (x)))]) C.1 C.2.1 dL_law_1243 hl (by decide) rfl (fun ls hl => ?_)
    refine lv_goto (tgt := 2200) C.1 C.2.1 dL_law_1245 (by decide) ?_
    rw [mv_eq (hc _)] at G
    exact kk _ _ _ _ _ _ _ _ _ _ _ _ G (by omega) (by omega) (lv_sub hl [2, 3, 4, 5, 6] rfl)
  · skip
    refine lv_aload_n C.1 C.2.1 dL_law_1208 rfl (lv_at hl 1 rfl) ?_
    refine lv_aload_n C.1 C.2.1 dL_law_1209 rfl (lv_at hl 0 rfl) ?_
    refine lv_iload C.1 C.2.1 dL_law_1210 (lv_at hl 4 rfl) ?_
    refine z_iconst C dL_law_1212 ?_
    refine z_iadd C dL_law_1213 ?_
    refine zd_ld C Z G q1 (x.toNat + 1) e1 (by omega) (by omega) dL_law_1214 ?_
    refine lv_aload_n C.1 C.2.1 dL_law_1215 rfl (lv_at hl 0 rfl) ?_
    refine lv_iload C.1 C.2.1 dL_law_1216 (lv_at hl 4 rfl) ?_
    refine z_iconst C dL_law_1218 ?_
    refine z_iadd C dL_law_1219 ?_
    refine zd_ld C Z G q2 (x.toNat + 2) e2 (by omega) (by omega) dL_law_1220 ?_
    refine lv_aload_n C.1 C.2.1 dL_law_1221 rfl (lv_at hl 3 rfl) ?_
    refine zd_W (as := [.ref o, .int (iZ (q1)), .int (iZ (q2)), .ref w]) C Z Y G (c_L_move_badc l hlq D cJ o a _ _ _ _ (q1) (q2) (by first | assumption | omega) (by first | assumption | omega) (by first | assumption | omega) w _ _) ml_L_235 ⟨Nat.le_of_ble_eq_true rfl, Nat.le_of_ble_eq_true rfl⟩ ⟨by show cells + 0 + 1 ≤ 665281; omega, by show slots + 0 + 6 ≤ 7105636; omega⟩ hl (Nat.le_of_ble_eq_true rfl) rfl dL_law_1222 (fun H locs G => ?_)
    refine lv_istore (lv' := [(5, .int (iZ (1))), (0, .ref t), (1, .ref o), (2, .ref u), (3, .ref w), (4, .int (iZ (x)))]) C.1 C.2.1 dL_law_1225 hl (by decide) rfl (fun ls hl => ?_)
    refine lv_aload_n C.1 C.2.1 dL_law_1227 rfl (lv_at hl 3 rfl) ?_
    refine lv_aload_n C.1 C.2.1 dL_law_1228 rfl (lv_at hl 1 rfl) ?_
    refine lv_iload C.1 C.2.1 dL_law_1229 (lv_at hl 5 rfl) ?_
    refine z_iconst C dL_law_1231 ?_
    refine z_iadd C dL_law_1232 ?_
    refine zd_ld C Z G q1 (x.toNat + 1) e1 (by omega) (by omega) dL_law_1233 ?_
    refine lv_aload_n C.1 C.2.1 dL_law_1234 rfl (lv_at hl 1 rfl) ?_
    refine lv_iload C.1 C.2.1 dL_law_1235 (lv_at hl 5 rfl) ?_
    refine z_iconst C dL_law_1237 ?_
    refine z_iadd C dL_law_1238 ?_
    refine zd_ld C Z G q2 (x.toNat + 2) e2 (by omega) (by omega) dL_law_1239 ?_
    refine zd_M (as := [.int (iZ (q1)), .int (iZ (q2))]) C Y G (c_X5_move_bad1 l D cJ u v _ _ _ _ _ (q1) (q2) (by first | assumption | omega) (by first | assumption | omega) (by first | assumption | omega)) ml_L_237 rfl ⟨Nat.le_of_ble_eq_true rfl, Nat.le_of_ble_eq_true rfl⟩ ⟨by show cells + 1 + 0 ≤ 665281; omega, by show slots + 6 + 0 ≤ 7105636; omega⟩ hl (Nat.le_of_ble_eq_true rfl) rfl dL_law_1240 (fun y9 H locs hy9 G => ?_)
    subst hy9
    refine lv_istore (lv' := [(6, _), (5, .int (iZ (1))), (0, .ref t), (1, .ref o), (2, .ref u), (3, .ref w), (4, .int (iZ (x)))]) C.1 C.2.1 dL_law_1243 hl (by decide) rfl (fun ls hl => ?_)
    refine lv_goto (tgt := 2200) C.1 C.2.1 dL_law_1245 (by decide) ?_
    exact kk _ _ _ _ _ _ _ _ _ _ _ _ G (by omega) (by omega) (lv_sub hl [2, 3, 4, 5, 6] rfl)
set_option maxHeartbeats 4000000 in
set_option maxRecDepth 100000 in
theorem lk_20 (hlq : l.stackTraces = false) (C : CallFix p m c0 cL_law 7 s args T0 RL) (Z : zLw D cB t N g s) (Y : zAd o a u v w s) {c : Nat → Nat} {ac re kn : Int32} {th : Int} {n : Int64} {sv : Value} {H : Heap} {locs : List Loc} {ls : Array Slot} {cells slots : Nat} (G : zG D cJ o a u v w c [.int ac, .int re, .int kn] c [.int (iZ th), .int ac, .int re, .int kn] n sv s H locs) (x : Int) (hx : 0 ≤ x ∧ x + 5 ≤ (N : Int)) (hf : cells + 150 ≤ 665281 ∧ slots + 75000 ≤ 7105636) (hl : lv_has ls 7 [(0, .ref t), (1, .ref o), (2, .ref u), (3, .ref w), (4, .int (iZ (x)))])
    (kk : zNx p l e s m args below meth c0 D cJ t o a u v w x cells slots Qw 2200) : W p l e room_1 s m args below meth c0 H locs cells slots Qw (F0 m 1248 ls []) := by
  have hc := G.1.2.2.2
  obtain ⟨q1, e1⟩ : ∃ z, g (x.toNat + 1) = z := ⟨_, rfl⟩
  have r1 : -2147483648 ≤ q1 ∧ q1 ≤ 2147483647 := e1 ▸ Z.2.2.2.2.2.1 _
  obtain ⟨q2, e2⟩ : ∃ z, g (x.toNat + 2) = z := ⟨_, rfl⟩
  have r2 : -2147483648 ≤ q2 ∧ q2 ≤ 2147483647 := e2 ▸ Z.2.2.2.2.2.1 _
  obtain ⟨q3, e3⟩ : ∃ z, g (x.toNat + 3) = z := ⟨_, rfl⟩
  have r3 : -2147483648 ≤ q3 ∧ q3 ≤ 2147483647 := e3 ▸ Z.2.2.2.2.2.1 _
  obtain ⟨q4, e4⟩ : ∃ z, g (x.toNat + 4) = z := ⟨_, rfl⟩
  have r4 : -2147483648 ≤ q4 ∧ q4 ≤ 2147483647 := e4 ▸ Z.2.2.2.2.2.1 _
  by_cases hcel : (0 ≤ q1 ∧ q1 ≤ 5) ∧ (0 ≤ q3 ∧ q3 ≤ 5) ∧ (0 ≤ q4 ∧ q4 ≤ 5)
  · skip
    by_cases hrng : (0 ≤ q2 ∧ q2 ≤ 255)
    · skip
      refine lv_aload_n C.1 C.2.1 dL_law_1248 rfl (lv_at hl 1 rfl) ?_
      refine lv_aload_n C.1 C.2.1 dL_law_1249 rfl (lv_at hl 0 rfl) ?_
      refine lv_iload C.1 C.2.1 dL_law_1250 (lv_at hl 4 rfl) ?_
      refine z_iconst C dL_law_1252 ?_
      refine z_iadd C dL_law_1253 ?_
      refine zd_ld C Z G q1 (x.toNat + 1) e1 (by omega) (by omega) dL_law_1254 ?_
      refine lv_aload_n C.1 C.2.1 dL_law_1255 rfl (lv_at hl 0 rfl) ?_
      refine lv_iload C.1 C.2.1 dL_law_1256 (lv_at hl 4 rfl) ?_
      refine z_iconst C dL_law_1258 ?_
      refine z_iadd C dL_law_1259 ?_
      refine zd_ld C Z G q2 (x.toNat + 2) e2 (by omega) (by omega) dL_law_1260 ?_
      refine lv_aload_n C.1 C.2.1 dL_law_1261 rfl (lv_at hl 0 rfl) ?_
      refine lv_iload C.1 C.2.1 dL_law_1262 (lv_at hl 4 rfl) ?_
      refine z_iconst C dL_law_1264 ?_
      refine z_iadd C dL_law_1265 ?_
      refine zd_ld C Z G q3 (x.toNat + 3) e3 (by omega) (by omega) dL_law_1266 ?_
      refine lv_aload_n C.1 C.2.1 dL_law_1267 rfl (lv_at hl 0 rfl) ?_
      refine lv_iload C.1 C.2.1 dL_law_1268 (lv_at hl 4 rfl) ?_
      refine z_iconst C dL_law_1270 ?_
      refine z_iadd C dL_law_1271 ?_
      refine zd_ld C Z G q4 (x.toNat + 4) e4 (by omega) (by omega) dL_law_1272 ?_
      refine lv_aload_n C.1 C.2.1 dL_law_1273 rfl (lv_at hl 3 rfl) ?_
      refine zd_W (as := [.ref o, .int (iZ (q1)), .int (iZ (q2)), .int (iZ (q3)), .int (iZ (q4)), .ref w]) C Z Y G (c_L_power l D cJ o a _ _ _ _ (q1) (q2) (q3) (q4) (by first | assumption | omega) (by first | assumption | omega) (by first | assumption | omega) (by first | assumption | omega) w _ _) ml_L_238 ⟨Nat.le_of_ble_eq_true rfl, Nat.le_of_ble_eq_true rfl⟩ ⟨by show cells + 0 + 0 ≤ 665281; omega, by show slots + 0 + 0 ≤ 7105636; omega⟩ hl (Nat.le_of_ble_eq_true rfl) rfl dL_law_1274 (fun H locs G => ?_)
      refine lv_istore (lv' := [(5, .int (iZ (0))), (0, .ref t), (1, .ref o), (2, .ref u), (3, .ref w), (4, .int (iZ (x)))]) C.1 C.2.1 dL_law_1277 hl (by decide) rfl (fun ls hl => ?_)
      refine lv_aload_n C.1 C.2.1 dL_law_1279 rfl (lv_at hl 3 rfl) ?_
      refine lv_aload_n C.1 C.2.1 dL_law_1280 rfl (lv_at hl 1 rfl) ?_
      refine lv_iload C.1 C.2.1 dL_law_1281 (lv_at hl 5 rfl) ?_
      refine z_iconst C dL_law_1283 ?_
      refine z_iadd C dL_law_1284 ?_
      refine zd_ld C Z G q1 (x.toNat + 1) e1 (by omega) (by omega) dL_law_1285 ?_
      refine lv_aload_n C.1 C.2.1 dL_law_1286 rfl (lv_at hl 1 rfl) ?_
      refine lv_iload C.1 C.2.1 dL_law_1287 (lv_at hl 5 rfl) ?_
      refine z_iconst C dL_law_1289 ?_
      refine z_iadd C dL_law_1290 ?_
      refine zd_ld C Z G q2 (x.toNat + 2) e2 (by omega) (by omega) dL_law_1291 ?_
      refine lv_aload_n C.1 C.2.1 dL_law_1292 rfl (lv_at hl 1 rfl) ?_
      refine lv_iload C.1 C.2.1 dL_law_1293 (lv_at hl 5 rfl) ?_
      refine z_iconst C dL_law_1295 ?_
      refine z_iadd C dL_law_1296 ?_
      refine zd_ld C Z G q3 (x.toNat + 3) e3 (by omega) (by omega) dL_law_1297 ?_
      refine lv_aload_n C.1 C.2.1 dL_law_1298 rfl (lv_at hl 1 rfl) ?_
      refine lv_iload C.1 C.2.1 dL_law_1299 (lv_at hl 5 rfl) ?_
      refine z_iconst C dL_law_1301 ?_
      refine z_iadd C dL_law_1302 ?_
      refine zd_ld C Z G q4 (x.toNat + 4) e4 (by omega) (by omega) dL_law_1303 ?_
      refine zd_M (as := [.int (iZ (q1)), .int (iZ (q2)), .int (iZ (q3)), .int (iZ (q4))]) C Y G (c_X5_power l D cJ u v _ _ _ _ _ (q1) (q2) (q3) (q4) (by first | assumption | omega) (by first | assumption | omega) (by first | assumption | omega) (by first | assumption | omega)) ml_L_240 rfl ⟨Nat.le_of_ble_eq_true rfl, Nat.le_of_ble_eq_true rfl⟩ ⟨by show cells + 0 + 0 ≤ 665281; omega, by show slots + 0 + 0 ≤ 7105636; omega⟩ hl (Nat.le_of_ble_eq_true rfl) rfl dL_law_1304 (fun y9 H locs hy9 G => ?_)
      subst hy9
      refine lv_istore (lv' := [(6, _), (5, .int (iZ (0))), (0, .ref t), (1, .ref o), (2, .ref u), (3, .ref w), (4, .int (iZ (x)))]) C.1 C.2.1 dL_law_1307 hl (by decide) rfl (fun ls hl => ?_)
      refine lv_goto (tgt := 2200) C.1 C.2.1 dL_law_1309 (by decide) ?_
      rw [wP_eq (hc _) (hc _) (by omega)] at G
      exact kk _ _ _ _ _ _ _ _ _ _ _ _ G (by omega) (by omega) (lv_sub hl [2, 3, 4, 5, 6] rfl)
    · skip
      refine lv_aload_n C.1 C.2.1 dL_law_1248 rfl (lv_at hl 1 rfl) ?_
      refine lv_aload_n C.1 C.2.1 dL_law_1249 rfl (lv_at hl 0 rfl) ?_
      refine lv_iload C.1 C.2.1 dL_law_1250 (lv_at hl 4 rfl) ?_
      refine z_iconst C dL_law_1252 ?_
      refine z_iadd C dL_law_1253 ?_
      refine zd_ld C Z G q1 (x.toNat + 1) e1 (by omega) (by omega) dL_law_1254 ?_
      refine lv_aload_n C.1 C.2.1 dL_law_1255 rfl (lv_at hl 0 rfl) ?_
      refine lv_iload C.1 C.2.1 dL_law_1256 (lv_at hl 4 rfl) ?_
      refine z_iconst C dL_law_1258 ?_
      refine z_iadd C dL_law_1259 ?_
      refine zd_ld C Z G q2 (x.toNat + 2) e2 (by omega) (by omega) dL_law_1260 ?_
      refine lv_aload_n C.1 C.2.1 dL_law_1261 rfl (lv_at hl 0 rfl) ?_
      refine lv_iload C.1 C.2.1 dL_law_1262 (lv_at hl 4 rfl) ?_
      refine z_iconst C dL_law_1264 ?_
      refine z_iadd C dL_law_1265 ?_
      refine zd_ld C Z G q3 (x.toNat + 3) e3 (by omega) (by omega) dL_law_1266 ?_
      refine lv_aload_n C.1 C.2.1 dL_law_1267 rfl (lv_at hl 0 rfl) ?_
      refine lv_iload C.1 C.2.1 dL_law_1268 (lv_at hl 4 rfl) ?_
      refine z_iconst C dL_law_1270 ?_
      refine z_iadd C dL_law_1271 ?_
      refine zd_ld C Z G q4 (x.toNat + 4) e4 (by omega) (by omega) dL_law_1272 ?_
      refine lv_aload_n C.1 C.2.1 dL_law_1273 rfl (lv_at hl 3 rfl) ?_
      refine zd_W (as := [.ref o, .int (iZ (q1)), .int (iZ (q2)), .int (iZ (q3)), .int (iZ (q4)), .ref w]) C Z Y G (c_L_power_badr l hlq D cJ o a _ _ _ _ (q1) (q2) (q3) (q4) (by first | assumption | omega) (by first | assumption | omega) (by first | assumption | omega) (by first | assumption | omega) (by first | assumption | omega) (by first | assumption | omega) (by first | assumption | omega) (by first | assumption | omega) w _ _) ml_L_238 ⟨Nat.le_of_ble_eq_true rfl, Nat.le_of_ble_eq_true rfl⟩ ⟨by show cells + 0 + 1 ≤ 665281; omega, by show slots + 0 + 6 ≤ 7105636; omega⟩ hl (Nat.le_of_ble_eq_true rfl) rfl dL_law_1274 (fun H locs G => ?_)
      refine lv_istore (lv' := [(5, .int (iZ (2))), (0, .ref t), (1, .ref o), (2, .ref u), (3, .ref w), (4, .int (iZ (x)))]) C.1 C.2.1 dL_law_1277 hl (by decide) rfl (fun ls hl => ?_)
      refine lv_aload_n C.1 C.2.1 dL_law_1279 rfl (lv_at hl 3 rfl) ?_
      refine lv_aload_n C.1 C.2.1 dL_law_1280 rfl (lv_at hl 1 rfl) ?_
      refine lv_iload C.1 C.2.1 dL_law_1281 (lv_at hl 5 rfl) ?_
      refine z_iconst C dL_law_1283 ?_
      refine z_iadd C dL_law_1284 ?_
      refine zd_ld C Z G q1 (x.toNat + 1) e1 (by omega) (by omega) dL_law_1285 ?_
      refine lv_aload_n C.1 C.2.1 dL_law_1286 rfl (lv_at hl 1 rfl) ?_
      refine lv_iload C.1 C.2.1 dL_law_1287 (lv_at hl 5 rfl) ?_
      refine z_iconst C dL_law_1289 ?_
      refine z_iadd C dL_law_1290 ?_
      refine zd_ld C Z G q2 (x.toNat + 2) e2 (by omega) (by omega) dL_law_1291 ?_
      refine lv_aload_n C.1 C.2.1 dL_law_1292 rfl (lv_at hl 1 rfl) ?_
      refine lv_iload C.1 C.2.1 dL_law_1293 (lv_at hl 5 rfl) ?_
      refine z_iconst C dL_law_1295 ?_
      refine z_iadd C dL_law_1296 ?_
      refine zd_ld C Z G q3 (x.toNat + 3) e3 (by omega) (by omega) dL_law_1297 ?_
      refine lv_aload_n C.1 C.2.1 dL_law_1298 rfl (lv_at hl 1 rfl) ?_
      refine lv_iload C.1 C.2.1 dL_law_1299 (lv_at hl 5 rfl) ?_
      refine z_iconst C dL_law_1301 ?_
      refine z_iadd C dL_law_1302 ?_
      refine zd_ld C Z G q4 (x.toNat + 4) e4 (by omega) (by omega) dL_law_1303 ?_
      refine zd_M (as := [.int (iZ (q1)), .int (iZ (q2)), .int (iZ (q3)), .int (iZ (q4))]) C Y G (c_X5_power_bad2 l D cJ u v _ _ _ _ _ (q1) (q2) (q3) (q4) (by first | assumption | omega) (by first | assumption | omega) (by first | assumption | omega) (by first | assumption | omega) (by first | assumption | omega) (by first | assumption | omega)) ml_L_240 rfl ⟨Nat.le_of_ble_eq_true rfl, Nat.le_of_ble_eq_true rfl⟩ ⟨by show cells + 1 + 0 ≤ 665281; omega, by show slots + 6 + 0 ≤ 7105636; omega⟩ hl (Nat.le_of_ble_eq_true rfl) rfl dL_law_1304 (fun y9 H locs hy9 G => ?_)
      subst hy9
      refine lv_istore (lv' := [(6, _), (5, .int (iZ (2))), (0, .ref t), (1, .ref o), (2, .ref u), (3, .ref w), (4, .int (iZ (x)))]) C.1 C.2.1 dL_law_1307 hl (by decide) rfl (fun ls hl => ?_)
      refine lv_goto (tgt := 2200) C.1 C.2.1 dL_law_1309 (by decide) ?_
      exact kk _ _ _ _ _ _ _ _ _ _ _ _ G (by omega) (by omega) (lv_sub hl [2, 3, 4, 5, 6] rfl)
  · skip
    refine lv_aload_n C.1 C.2.1 dL_law_1248 rfl (lv_at hl 1 rfl) ?_
    refine lv_aload_n C.1 C.2.1 dL_law_1249 rfl (lv_at hl 0 rfl) ?_
    refine lv_iload C.1 C.2.1 dL_law_1250 (lv_at hl 4 rfl) ?_
    refine z_iconst C dL_law_1252 ?_
    refine z_iadd C dL_law_1253 ?_
    refine zd_ld C Z G q1 (x.toNat + 1) e1 (by omega) (by omega) dL_law_1254 ?_
    refine lv_aload_n C.1 C.2.1 dL_law_1255 rfl (lv_at hl 0 rfl) ?_
    refine lv_iload C.1 C.2.1 dL_law_1256 (lv_at hl 4 rfl) ?_
    refine z_iconst C dL_law_1258 ?_
    refine z_iadd C dL_law_1259 ?_
    refine zd_ld C Z G q2 (x.toNat + 2) e2 (by omega) (by omega) dL_law_1260 ?_
    refine lv_aload_n C.1 C.2.1 dL_law_1261 rfl (lv_at hl 0 rfl) ?_
    refine lv_iload C.1 C.2.1 dL_law_1262 (lv_at hl 4 rfl) ?_
    refine z_iconst C dL_law_1264 ?_
    refine z_iadd C dL_law_1265 ?_
    refine zd_ld C Z G q3 (x.toNat + 3) e3 (by omega) (by omega) dL_law_1266 ?_
    refine lv_aload_n C.1 C.2.1 dL_law_1267 rfl (lv_at hl 0 rfl) ?_
    refine lv_iload C.1 C.2.1 dL_law_1268 (lv_at hl 4 rfl) ?_
    refine z_iconst C dL_law_1270 ?_
    refine z_iadd C dL_law_1271 ?_
    refine zd_ld C Z G q4 (x.toNat + 4) e4 (by omega) (by omega) dL_law_1272 ?_
    refine lv_aload_n C.1 C.2.1 dL_law_1273 rfl (lv_at hl 3 rfl) ?_
    refine zd_W (as := [.ref o, .int (iZ (q1)), .int (iZ (q2)), .int (iZ (q3)), .int (iZ (q4)), .ref w]) C Z Y G (c_L_power_badc l hlq D cJ o a _ _ _ _ (q1) (q2) (q3) (q4) (by first | assumption | omega) (by first | assumption | omega) (by first | assumption | omega) (by first | assumption | omega) (by first | assumption | omega) w _ _) ml_L_238 ⟨Nat.le_of_ble_eq_true rfl, Nat.le_of_ble_eq_true rfl⟩ ⟨by show cells + 0 + 1 ≤ 665281; omega, by show slots + 0 + 6 ≤ 7105636; omega⟩ hl (Nat.le_of_ble_eq_true rfl) rfl dL_law_1274 (fun H locs G => ?_)
    refine lv_istore (lv' := [(5, .int (iZ (1))), (0, .ref t), (1, .ref o), (2, .ref u), (3, .ref w), (4, .int (iZ (x)))]) C.1 C.2.1 dL_law_1277 hl (by decide) rfl (fun ls hl => ?_)
    refine lv_aload_n C.1 C.2.1 dL_law_1279 rfl (lv_at hl 3 rfl) ?_
    refine lv_aload_n C.1 C.2.1 dL_law_1280 rfl (lv_at hl 1 rfl) ?_
    refine lv_iload C.1 C.2.1 dL_law_1281 (lv_at hl 5 rfl) ?_
    refine z_iconst C dL_law_1283 ?_
    refine z_iadd C dL_law_1284 ?_
    refine zd_ld C Z G q1 (x.toNat + 1) e1 (by omega) (by omega) dL_law_1285 ?_
    refine lv_aload_n C.1 C.2.1 dL_law_1286 rfl (lv_at hl 1 rfl) ?_
    refine lv_iload C.1 C.2.1 dL_law_1287 (lv_at hl 5 rfl) ?_
    refine z_iconst C dL_law_1289 ?_
    refine z_iadd C dL_law_1290 ?_
    refine zd_ld C Z G q2 (x.toNat + 2) e2 (by omega) (by omega) dL_law_1291 ?_
    refine lv_aload_n C.1 C.2.1 dL_law_1292 rfl (lv_at hl 1 rfl) ?_
    refine lv_iload C.1 C.2.1 dL_law_1293 (lv_at hl 5 rfl) ?_
    refine z_iconst C dL_law_1295 ?_
    refine z_iadd C dL_law_1296 ?_
    refine zd_ld C Z G q3 (x.toNat + 3) e3 (by omega) (by omega) dL_law_1297 ?_
    refine lv_aload_n C.1 C.2.1 dL_law_1298 rfl (lv_at hl 1 rfl) ?_
    refine lv_iload C.1 C.2.1 dL_law_1299 (lv_at hl 5 rfl) ?_
    refine z_iconst C dL_law_1301 ?_
    refine z_iadd C dL_law_1302 ?_
    refine zd_ld C Z G q4 (x.toNat + 4) e4 (by omega) (by omega) dL_law_1303 ?_
    refine zd_M (as := [.int (iZ (q1)), .int (iZ (q2)), .int (iZ (q3)), .int (iZ (q4))]) C Y G (c_X5_power_bad1 l D cJ u v _ _ _ _ _ (q1) (q2) (q3) (q4) (by first | assumption | omega) (by first | assumption | omega) (by first | assumption | omega) (by first | assumption | omega) (by first | assumption | omega)) ml_L_240 rfl ⟨Nat.le_of_ble_eq_true rfl, Nat.le_of_ble_eq_true rfl⟩ ⟨by show cells + 1 + 0 ≤ 665281; omega, by show slots + 6 + 0 ≤ 7105636; omega⟩ hl (Nat.le_of_ble_eq_true rfl) rfl dL_law_1304 (fun y9 H locs hy9 G => ?_)
    subst hy9
    refine lv_istore (lv' := [(6, _), (5, .int (iZ (1))), (0, .ref t), (1, .ref o), (2, .ref u), (3, .ref w), (4, .int (iZ (x)))]) C.1 C.2.1 dL_law_1307 hl (by decide) rfl (fun ls hl => ?_)
    refine lv_goto (tgt := 2200) C.1 C.2.1 dL_law_1309 (by decide) ?_
    exact kk _ _ _ _ _ _ _ _ _ _ _ _ G (by omega) (by omega) (lv_sub hl [2, 3, 4, 5, 6] rfl)
set_option maxHeartbeats 4000000 in
set_option maxRecDepth 100000 in
theorem lk_21 (hlq : l.stackTraces = false) (C : CallFix p m c0 cL_law 7 s args T0 RL) (Z : zLw D cB t N g s) (Y : zAd o a u v w s) {c : Nat → Nat} {ac re kn : Int32} {th : Int} {n : Int64} {sv : Value} {H : Heap} {locs : List Loc} {ls : Array Slot} {cells slots : Nat} (G : zG D cJ o a u v w c [.int ac, .int re, .int kn] c [.int (iZ th), .int ac, .int re, .int kn] n sv s H locs) (x : Int) (hx : 0 ≤ x ∧ x + 5 ≤ (N : Int)) (hf : cells + 150 ≤ 665281 ∧ slots + 75000 ≤ 7105636) (hl : lv_has ls 7 [(0, .ref t), (1, .ref o), (2, .ref u), (3, .ref w), (4, .int (iZ (x)))])
    (kk : zNx p l e s m args below meth c0 D cJ t o a u v w x cells slots Qw 2200) : W p l e room_1 s m args below meth c0 H locs cells slots Qw (F0 m 1312 ls []) := by
  have hc := G.1.2.2.2
  obtain ⟨q1, e1⟩ : ∃ z, g (x.toNat + 1) = z := ⟨_, rfl⟩
  have r1 : -2147483648 ≤ q1 ∧ q1 ≤ 2147483647 := e1 ▸ Z.2.2.2.2.2.1 _
  obtain ⟨q2, e2⟩ : ∃ z, g (x.toNat + 2) = z := ⟨_, rfl⟩
  have r2 : -2147483648 ≤ q2 ∧ q2 ≤ 2147483647 := e2 ▸ Z.2.2.2.2.2.1 _
  obtain ⟨q3, e3⟩ : ∃ z, g (x.toNat + 3) = z := ⟨_, rfl⟩
  have r3 : -2147483648 ≤ q3 ∧ q3 ≤ 2147483647 := e3 ▸ Z.2.2.2.2.2.1 _
  by_cases hcel : (0 ≤ q3 ∧ q3 ≤ 5)
  · skip
    by_cases hrng : (1 ≤ q1 ∧ q1 ≤ 8) ∧ (0 ≤ q2 ∧ q2 ≤ 40)
    · skip
      refine lv_aload_n C.1 C.2.1 dL_law_1312 rfl (lv_at hl 1 rfl) ?_
      refine lv_aload_n C.1 C.2.1 dL_law_1313 rfl (lv_at hl 0 rfl) ?_
      refine lv_iload C.1 C.2.1 dL_law_1314 (lv_at hl 4 rfl) ?_
      refine z_iconst C dL_law_1316 ?_
      refine z_iadd C dL_law_1317 ?_
      refine zd_ld C Z G q1 (x.toNat + 1) e1 (by omega) (by omega) dL_law_1318 ?_
      refine lv_aload_n C.1 C.2.1 dL_law_1319 rfl (lv_at hl 0 rfl) ?_
      refine lv_iload C.1 C.2.1 dL_law_1320 (lv_at hl 4 rfl) ?_
      refine z_iconst C dL_law_1322 ?_
      refine z_iadd C dL_law_1323 ?_
      refine zd_ld C Z G q2 (x.toNat + 2) e2 (by omega) (by omega) dL_law_1324 ?_
      refine lv_aload_n C.1 C.2.1 dL_law_1325 rfl (lv_at hl 0 rfl) ?_
      refine lv_iload C.1 C.2.1 dL_law_1326 (lv_at hl 4 rfl) ?_
      refine z_iconst C dL_law_1328 ?_
      refine z_iadd C dL_law_1329 ?_
      refine zd_ld C Z G q3 (x.toNat + 3) e3 (by omega) (by omega) dL_law_1330 ?_
      refine lv_aload_n C.1 C.2.1 dL_law_1331 rfl (lv_at hl 3 rfl) ?_
      refine zd_W (as := [.ref o, .int (iZ (q1)), .int (iZ (q2)), .int (iZ (q3)), .ref w]) C Z Y G (c_L_nth l D cJ o a _ _ _ _ (q1) (q2) (q3) (by first | assumption | omega) (by first | assumption | omega) (by first | assumption | omega) w _ _) ml_L_241 ⟨Nat.le_of_ble_eq_true rfl, Nat.le_of_ble_eq_true rfl⟩ ⟨by show cells + 0 + 0 ≤ 665281; omega, by show slots + 0 + 0 ≤ 7105636; omega⟩ hl (Nat.le_of_ble_eq_true rfl) rfl dL_law_1332 (fun H locs G => ?_)
      refine lv_istore (lv' := [(5, .int (iZ (0))), (0, .ref t), (1, .ref o), (2, .ref u), (3, .ref w), (4, .int (iZ (x)))]) C.1 C.2.1 dL_law_1335 hl (by decide) rfl (fun ls hl => ?_)
      refine lv_aload_n C.1 C.2.1 dL_law_1337 rfl (lv_at hl 3 rfl) ?_
      refine lv_aload_n C.1 C.2.1 dL_law_1338 rfl (lv_at hl 1 rfl) ?_
      refine lv_iload C.1 C.2.1 dL_law_1339 (lv_at hl 5 rfl) ?_
      refine z_iconst C dL_law_1341 ?_
      refine z_iadd C dL_law_1342 ?_
      refine zd_ld C Z G q1 (x.toNat + 1) e1 (by omega) (by omega) dL_law_1343 ?_
      refine lv_aload_n C.1 C.2.1 dL_law_1344 rfl (lv_at hl 1 rfl) ?_
      refine lv_iload C.1 C.2.1 dL_law_1345 (lv_at hl 5 rfl) ?_
      refine z_iconst C dL_law_1347 ?_
      refine z_iadd C dL_law_1348 ?_
      refine zd_ld C Z G q2 (x.toNat + 2) e2 (by omega) (by omega) dL_law_1349 ?_
      refine lv_aload_n C.1 C.2.1 dL_law_1350 rfl (lv_at hl 1 rfl) ?_
      refine lv_iload C.1 C.2.1 dL_law_1351 (lv_at hl 5 rfl) ?_
      refine z_iconst C dL_law_1353 ?_
      refine z_iadd C dL_law_1354 ?_
      refine zd_ld C Z G q3 (x.toNat + 3) e3 (by omega) (by omega) dL_law_1355 ?_
      refine zd_M (as := [.int (iZ (q1)), .int (iZ (q2)), .int (iZ (q3))]) C Y G (c_X5_nth l D cJ u v _ _ _ _ _ (q1) (q2) (q3) (by first | assumption | omega) (by first | assumption | omega) (by first | assumption | omega)) ml_L_243 rfl ⟨Nat.le_of_ble_eq_true rfl, Nat.le_of_ble_eq_true rfl⟩ ⟨by show cells + 0 + 0 ≤ 665281; omega, by show slots + 0 + 0 ≤ 7105636; omega⟩ hl (Nat.le_of_ble_eq_true rfl) rfl dL_law_1356 (fun y9 H locs hy9 G => ?_)
      subst hy9
      refine lv_istore (lv' := [(6, _), (5, .int (iZ (0))), (0, .ref t), (1, .ref o), (2, .ref u), (3, .ref w), (4, .int (iZ (x)))]) C.1 C.2.1 dL_law_1359 hl (by decide) rfl (fun ls hl => ?_)
      refine lv_goto (tgt := 2200) C.1 C.2.1 dL_law_1361 (by decide) ?_
      exact kk _ _ _ _ _ _ _ _ _ _ _ _ G (by omega) (by omega) (lv_sub hl [2, 3, 4, 5, 6] rfl)
    · skip
      refine lv_aload_n C.1 C.2.1 dL_law_1312 rfl (lv_at hl 1 rfl) ?_
      refine lv_aload_n C.1 C.2.1 dL_law_1313 rfl (lv_at hl 0 rfl) ?_
      refine lv_iload C.1 C.2.1 dL_law_1314 (lv_at hl 4 rfl) ?_
      refine z_iconst C dL_law_1316 ?_
      refine z_iadd C dL_law_1317 ?_
      refine zd_ld C Z G q1 (x.toNat + 1) e1 (by omega) (by omega) dL_law_1318 ?_
      refine lv_aload_n C.1 C.2.1 dL_law_1319 rfl (lv_at hl 0 rfl) ?_
      refine lv_iload C.1 C.2.1 dL_law_1320 (lv_at hl 4 rfl) ?_
      refine z_iconst C dL_law_1322 ?_
      refine z_iadd C dL_law_1323 ?_
      refine zd_ld C Z G q2 (x.toNat + 2) e2 (by omega) (by omega) dL_law_1324 ?_
      refine lv_aload_n C.1 C.2.1 dL_law_1325 rfl (lv_at hl 0 rfl) ?_
      refine lv_iload C.1 C.2.1 dL_law_1326 (lv_at hl 4 rfl) ?_
      refine z_iconst C dL_law_1328 ?_
      refine z_iadd C dL_law_1329 ?_
      refine zd_ld C Z G q3 (x.toNat + 3) e3 (by omega) (by omega) dL_law_1330 ?_
      refine lv_aload_n C.1 C.2.1 dL_law_1331 rfl (lv_at hl 3 rfl) ?_
      refine zd_W (as := [.ref o, .int (iZ (q1)), .int (iZ (q2)), .int (iZ (q3)), .ref w]) C Z Y G (c_L_nth_badr l hlq D cJ o a _ _ _ _ (q1) (q2) (q3) (by first | assumption | omega) (by first | assumption | omega) (by first | assumption | omega) (by first | assumption | omega) (by first | assumption | omega) w _ _) ml_L_241 ⟨Nat.le_of_ble_eq_true rfl, Nat.le_of_ble_eq_true rfl⟩ ⟨by show cells + 0 + 1 ≤ 665281; omega, by show slots + 0 + 6 ≤ 7105636; omega⟩ hl (Nat.le_of_ble_eq_true rfl) rfl dL_law_1332 (fun H locs G => ?_)
      refine lv_istore (lv' := [(5, .int (iZ (2))), (0, .ref t), (1, .ref o), (2, .ref u), (3, .ref w), (4, .int (iZ (x)))]) C.1 C.2.1 dL_law_1335 hl (by decide) rfl (fun ls hl => ?_)
      refine lv_aload_n C.1 C.2.1 dL_law_1337 rfl (lv_at hl 3 rfl) ?_
      refine lv_aload_n C.1 C.2.1 dL_law_1338 rfl (lv_at hl 1 rfl) ?_
      refine lv_iload C.1 C.2.1 dL_law_1339 (lv_at hl 5 rfl) ?_
      refine z_iconst C dL_law_1341 ?_
      refine z_iadd C dL_law_1342 ?_
      refine zd_ld C Z G q1 (x.toNat + 1) e1 (by omega) (by omega) dL_law_1343 ?_
      refine lv_aload_n C.1 C.2.1 dL_law_1344 rfl (lv_at hl 1 rfl) ?_
      refine lv_iload C.1 C.2.1 dL_law_1345 (lv_at hl 5 rfl) ?_
      refine z_iconst C dL_law_1347 ?_
      refine z_iadd C dL_law_1348 ?_
      refine zd_ld C Z G q2 (x.toNat + 2) e2 (by omega) (by omega) dL_law_1349 ?_
      refine lv_aload_n C.1 C.2.1 dL_law_1350 rfl (lv_at hl 1 rfl) ?_
      refine lv_iload C.1 C.2.1 dL_law_1351 (lv_at hl 5 rfl) ?_
      refine z_iconst C dL_law_1353 ?_
      refine z_iadd C dL_law_1354 ?_
      refine zd_ld C Z G q3 (x.toNat + 3) e3 (by omega) (by omega) dL_law_1355 ?_
      refine zd_M (as := [.int (iZ (q1)), .int (iZ (q2)), .int (iZ (q3))]) C Y G (c_X5_nth_bad2 l D cJ u v _ _ _ _ _ (q1) (q2) (q3) (by first | assumption | omega) (by first | assumption | omega) (by first | assumption | omega) (by first | assumption | omega) (by first | assumption | omega)) ml_L_243 rfl ⟨Nat.le_of_ble_eq_true rfl, Nat.le_of_ble_eq_true rfl⟩ ⟨by show cells + 1 + 0 ≤ 665281; omega, by show slots + 6 + 0 ≤ 7105636; omega⟩ hl (Nat.le_of_ble_eq_true rfl) rfl dL_law_1356 (fun y9 H locs hy9 G => ?_)
      subst hy9
      refine lv_istore (lv' := [(6, _), (5, .int (iZ (2))), (0, .ref t), (1, .ref o), (2, .ref u), (3, .ref w), (4, .int (iZ (x)))]) C.1 C.2.1 dL_law_1359 hl (by decide) rfl (fun ls hl => ?_)
      refine lv_goto (tgt := 2200) C.1 C.2.1 dL_law_1361 (by decide) ?_
      exact kk _ _ _ _ _ _ _ _ _ _ _ _ G (by omega) (by omega) (lv_sub hl [2, 3, 4, 5, 6] rfl)
  · skip
    refine lv_aload_n C.1 C.2.1 dL_law_1312 rfl (lv_at hl 1 rfl) ?_
    refine lv_aload_n C.1 C.2.1 dL_law_1313 rfl (lv_at hl 0 rfl) ?_
    refine lv_iload C.1 C.2.1 dL_law_1314 (lv_at hl 4 rfl) ?_
    refine z_iconst C dL_law_1316 ?_
    refine z_iadd C dL_law_1317 ?_
    refine zd_ld C Z G q1 (x.toNat + 1) e1 (by omega) (by omega) dL_law_1318 ?_
    refine lv_aload_n C.1 C.2.1 dL_law_1319 rfl (lv_at hl 0 rfl) ?_
    refine lv_iload C.1 C.2.1 dL_law_1320 (lv_at hl 4 rfl) ?_
    refine z_iconst C dL_law_1322 ?_
    refine z_iadd C dL_law_1323 ?_
    refine zd_ld C Z G q2 (x.toNat + 2) e2 (by omega) (by omega) dL_law_1324 ?_
    refine lv_aload_n C.1 C.2.1 dL_law_1325 rfl (lv_at hl 0 rfl) ?_
    refine lv_iload C.1 C.2.1 dL_law_1326 (lv_at hl 4 rfl) ?_
    refine z_iconst C dL_law_1328 ?_
    refine z_iadd C dL_law_1329 ?_
    refine zd_ld C Z G q3 (x.toNat + 3) e3 (by omega) (by omega) dL_law_1330 ?_
    refine lv_aload_n C.1 C.2.1 dL_law_1331 rfl (lv_at hl 3 rfl) ?_
    refine zd_W (as := [.ref o, .int (iZ (q1)), .int (iZ (q2)), .int (iZ (q3)), .ref w]) C Z Y G (c_L_nth_badc l hlq D cJ o a _ _ _ _ (q1) (q2) (q3) (by first | assumption | omega) (by first | assumption | omega) (by first | assumption | omega) (by first | assumption | omega) w _ _) ml_L_241 ⟨Nat.le_of_ble_eq_true rfl, Nat.le_of_ble_eq_true rfl⟩ ⟨by show cells + 0 + 1 ≤ 665281; omega, by show slots + 0 + 6 ≤ 7105636; omega⟩ hl (Nat.le_of_ble_eq_true rfl) rfl dL_law_1332 (fun H locs G => ?_)
    refine lv_istore (lv' := [(5, .int (iZ (1))), (0, .ref t), (1, .ref o), (2, .ref u), (3, .ref w), (4, .int (iZ (x)))]) C.1 C.2.1 dL_law_1335 hl (by decide) rfl (fun ls hl => ?_)
    refine lv_aload_n C.1 C.2.1 dL_law_1337 rfl (lv_at hl 3 rfl) ?_
    refine lv_aload_n C.1 C.2.1 dL_law_1338 rfl (lv_at hl 1 rfl) ?_
    refine lv_iload C.1 C.2.1 dL_law_1339 (lv_at hl 5 rfl) ?_
    refine z_iconst C dL_law_1341 ?_
    refine z_iadd C dL_law_1342 ?_
    refine zd_ld C Z G q1 (x.toNat + 1) e1 (by omega) (by omega) dL_law_1343 ?_
    refine lv_aload_n C.1 C.2.1 dL_law_1344 rfl (lv_at hl 1 rfl) ?_
    refine lv_iload C.1 C.2.1 dL_law_1345 (lv_at hl 5 rfl) ?_
    refine z_iconst C dL_law_1347 ?_
    refine z_iadd C dL_law_1348 ?_
    refine zd_ld C Z G q2 (x.toNat + 2) e2 (by omega) (by omega) dL_law_1349 ?_
    refine lv_aload_n C.1 C.2.1 dL_law_1350 rfl (lv_at hl 1 rfl) ?_
    refine lv_iload C.1 C.2.1 dL_law_1351 (lv_at hl 5 rfl) ?_
    refine z_iconst C dL_law_1353 ?_
    refine z_iadd C dL_law_1354 ?_
    refine zd_ld C Z G q3 (x.toNat + 3) e3 (by omega) (by omega) dL_law_1355 ?_
    refine zd_M (as := [.int (iZ (q1)), .int (iZ (q2)), .int (iZ (q3))]) C Y G (c_X5_nth_bad1 l D cJ u v _ _ _ _ _ (q1) (q2) (q3) (by first | assumption | omega) (by first | assumption | omega) (by first | assumption | omega) (by first | assumption | omega)) ml_L_243 rfl ⟨Nat.le_of_ble_eq_true rfl, Nat.le_of_ble_eq_true rfl⟩ ⟨by show cells + 1 + 0 ≤ 665281; omega, by show slots + 6 + 0 ≤ 7105636; omega⟩ hl (Nat.le_of_ble_eq_true rfl) rfl dL_law_1356 (fun y9 H locs hy9 G => ?_)
    subst hy9
    refine lv_istore (lv' := [(6, _), (5, .int (iZ (1))), (0, .ref t), (1, .ref o), (2, .ref u), (3, .ref w), (4, .int (iZ (x)))]) C.1 C.2.1 dL_law_1359 hl (by decide) rfl (fun ls hl => ?_)
    refine lv_goto (tgt := 2200) C.1 C.2.1 dL_law_1361 (by decide) ?_
    exact kk _ _ _ _ _ _ _ _ _ _ _ _ G (by omega) (by omega) (lv_sub hl [2, 3, 4, 5, 6] rfl)
set_option maxHeartbeats 4000000 in
set_option maxRecDepth 100000 in
theorem lk_22 (hlq : l.stackTraces = false) (C : CallFix p m c0 cL_law 7 s args T0 RL) (Z : zLw D cB t N g s) (Y : zAd o a u v w s) {c : Nat → Nat} {ac re kn : Int32} {th : Int} {n : Int64} {sv : Value} {H : Heap} {locs : List Loc} {ls : Array Slot} {cells slots : Nat} (G : zG D cJ o a u v w c [.int ac, .int re, .int kn] c [.int (iZ th), .int ac, .int re, .int kn] n sv s H locs) (x : Int) (hx : 0 ≤ x ∧ x + 5 ≤ (N : Int)) (hf : cells + 150 ≤ 665281 ∧ slots + 75000 ≤ 7105636) (hl : lv_has ls 7 [(0, .ref t), (1, .ref o), (2, .ref u), (3, .ref w), (4, .int (iZ (x)))])
    (kk : zNx p l e s m args below meth c0 D cJ t o a u v w x cells slots Qw 2200) : W p l e room_1 s m args below meth c0 H locs cells slots Qw (F0 m 1364 ls []) := by
  have hc := G.1.2.2.2
  obtain ⟨q1, e1⟩ : ∃ z, g (x.toNat + 1) = z := ⟨_, rfl⟩
  have r1 : -2147483648 ≤ q1 ∧ q1 ≤ 2147483647 := e1 ▸ Z.2.2.2.2.2.1 _
  obtain ⟨q2, e2⟩ : ∃ z, g (x.toNat + 2) = z := ⟨_, rfl⟩
  have r2 : -2147483648 ≤ q2 ∧ q2 ≤ 2147483647 := e2 ▸ Z.2.2.2.2.2.1 _
  by_cases hcel : (0 ≤ q2 ∧ q2 ≤ 5)
  · skip
    by_cases hrng : (1 ≤ q1 ∧ q1 ≤ 5)
    · skip
      refine lv_aload_n C.1 C.2.1 dL_law_1364 rfl (lv_at hl 1 rfl) ?_
      refine lv_aload_n C.1 C.2.1 dL_law_1365 rfl (lv_at hl 0 rfl) ?_
      refine lv_iload C.1 C.2.1 dL_law_1366 (lv_at hl 4 rfl) ?_
      refine z_iconst C dL_law_1368 ?_
      refine z_iadd C dL_law_1369 ?_
      refine zd_ld C Z G q1 (x.toNat + 1) e1 (by omega) (by omega) dL_law_1370 ?_
      refine lv_aload_n C.1 C.2.1 dL_law_1371 rfl (lv_at hl 0 rfl) ?_
      refine lv_iload C.1 C.2.1 dL_law_1372 (lv_at hl 4 rfl) ?_
      refine z_iconst C dL_law_1374 ?_
      refine z_iadd C dL_law_1375 ?_
      refine zd_ld C Z G q2 (x.toNat + 2) e2 (by omega) (by omega) dL_law_1376 ?_
      refine lv_aload_n C.1 C.2.1 dL_law_1377 rfl (lv_at hl 3 rfl) ?_
      refine zd_W (as := [.ref o, .int (iZ (q1)), .int (iZ (q2)), .ref w]) C Z Y G (c_L_field l D cJ o a _ _ _ _ (q1) (q2) (by first | assumption | omega) (by first | assumption | omega) w _ _) ml_L_244 ⟨Nat.le_of_ble_eq_true rfl, Nat.le_of_ble_eq_true rfl⟩ ⟨by show cells + 0 + 0 ≤ 665281; omega, by show slots + 0 + 0 ≤ 7105636; omega⟩ hl (Nat.le_of_ble_eq_true rfl) rfl dL_law_1378 (fun H locs G => ?_)
      refine lv_istore (lv' := [(5, .int (iZ (0))), (0, .ref t), (1, .ref o), (2, .ref u), (3, .ref w), (4, .int (iZ (x)))]) C.1 C.2.1 dL_law_1381 hl (by decide) rfl (fun ls hl => ?_)
      refine lv_aload_n C.1 C.2.1 dL_law_1383 rfl (lv_at hl 3 rfl) ?_
      refine lv_aload_n C.1 C.2.1 dL_law_1384 rfl (lv_at hl 1 rfl) ?_
      refine lv_iload C.1 C.2.1 dL_law_1385 (lv_at hl 5 rfl) ?_
      refine z_iconst C dL_law_1387 ?_
      refine z_iadd C dL_law_1388 ?_
      refine zd_ld C Z G q1 (x.toNat + 1) e1 (by omega) (by omega) dL_law_1389 ?_
      refine lv_aload_n C.1 C.2.1 dL_law_1390 rfl (lv_at hl 1 rfl) ?_
      refine lv_iload C.1 C.2.1 dL_law_1391 (lv_at hl 5 rfl) ?_
      refine z_iconst C dL_law_1393 ?_
      refine z_iadd C dL_law_1394 ?_
      refine zd_ld C Z G q2 (x.toNat + 2) e2 (by omega) (by omega) dL_law_1395 ?_
      refine zd_M (as := [.int (iZ (q1)), .int (iZ (q2))]) C Y G (c_X5_field l D cJ u v _ _ _ _ _ (q1) (q2) (by first | assumption | omega) (by first | assumption | omega)) ml_L_246 rfl ⟨Nat.le_of_ble_eq_true rfl, Nat.le_of_ble_eq_true rfl⟩ ⟨by show cells + 0 + 0 ≤ 665281; omega, by show slots + 0 + 0 ≤ 7105636; omega⟩ hl (Nat.le_of_ble_eq_true rfl) rfl dL_law_1396 (fun y9 H locs hy9 G => ?_)
      subst hy9
      refine lv_istore (lv' := [(6, _), (5, .int (iZ (0))), (0, .ref t), (1, .ref o), (2, .ref u), (3, .ref w), (4, .int (iZ (x)))]) C.1 C.2.1 dL_law_1399 hl (by decide) rfl (fun ls hl => ?_)
      refine lv_goto (tgt := 2200) C.1 C.2.1 dL_law_1401 (by decide) ?_
      rw [pd_eq (by omega)] at G
      exact kk _ _ _ _ _ _ _ _ _ _ _ _ G (by omega) (by omega) (lv_sub hl [2, 3, 4, 5, 6] rfl)
    · skip
      refine lv_aload_n C.1 C.2.1 dL_law_1364 rfl (lv_at hl 1 rfl) ?_
      refine lv_aload_n C.1 C.2.1 dL_law_1365 rfl (lv_at hl 0 rfl) ?_
      refine lv_iload C.1 C.2.1 dL_law_1366 (lv_at hl 4 rfl) ?_
      refine z_iconst C dL_law_1368 ?_
      refine z_iadd C dL_law_1369 ?_
      refine zd_ld C Z G q1 (x.toNat + 1) e1 (by omega) (by omega) dL_law_1370 ?_
      refine lv_aload_n C.1 C.2.1 dL_law_1371 rfl (lv_at hl 0 rfl) ?_
      refine lv_iload C.1 C.2.1 dL_law_1372 (lv_at hl 4 rfl) ?_
      refine z_iconst C dL_law_1374 ?_
      refine z_iadd C dL_law_1375 ?_
      refine zd_ld C Z G q2 (x.toNat + 2) e2 (by omega) (by omega) dL_law_1376 ?_
      refine lv_aload_n C.1 C.2.1 dL_law_1377 rfl (lv_at hl 3 rfl) ?_
      refine zd_W (as := [.ref o, .int (iZ (q1)), .int (iZ (q2)), .ref w]) C Z Y G (c_L_field_badr l hlq D cJ o a _ _ _ _ (q1) (q2) (by first | assumption | omega) (by first | assumption | omega) (by first | assumption | omega) (by first | assumption | omega) w _ _) ml_L_244 ⟨Nat.le_of_ble_eq_true rfl, Nat.le_of_ble_eq_true rfl⟩ ⟨by show cells + 0 + 1 ≤ 665281; omega, by show slots + 0 + 6 ≤ 7105636; omega⟩ hl (Nat.le_of_ble_eq_true rfl) rfl dL_law_1378 (fun H locs G => ?_)
      refine lv_istore (lv' := [(5, .int (iZ (2))), (0, .ref t), (1, .ref o), (2, .ref u), (3, .ref w), (4, .int (iZ (x)))]) C.1 C.2.1 dL_law_1381 hl (by decide) rfl (fun ls hl => ?_)
      refine lv_aload_n C.1 C.2.1 dL_law_1383 rfl (lv_at hl 3 rfl) ?_
      refine lv_aload_n C.1 C.2.1 dL_law_1384 rfl (lv_at hl 1 rfl) ?_
      refine lv_iload C.1 C.2.1 dL_law_1385 (lv_at hl 5 rfl) ?_
      refine z_iconst C dL_law_1387 ?_
      refine z_iadd C dL_law_1388 ?_
      refine zd_ld C Z G q1 (x.toNat + 1) e1 (by omega) (by omega) dL_law_1389 ?_
      refine lv_aload_n C.1 C.2.1 dL_law_1390 rfl (lv_at hl 1 rfl) ?_
      refine lv_iload C.1 C.2.1 dL_law_1391 (lv_at hl 5 rfl) ?_
      refine z_iconst C dL_law_1393 ?_
      refine z_iadd C dL_law_1394 ?_
      refine zd_ld C Z G q2 (x.toNat + 2) e2 (by omega) (by omega) dL_law_1395 ?_
      refine zd_M (as := [.int (iZ (q1)), .int (iZ (q2))]) C Y G (c_X5_field_bad2 l D cJ u v _ _ _ _ _ (q1) (q2) (by first | assumption | omega) (by first | assumption | omega) (by first | assumption | omega) (by first | assumption | omega)) ml_L_246 rfl ⟨Nat.le_of_ble_eq_true rfl, Nat.le_of_ble_eq_true rfl⟩ ⟨by show cells + 1 + 0 ≤ 665281; omega, by show slots + 6 + 0 ≤ 7105636; omega⟩ hl (Nat.le_of_ble_eq_true rfl) rfl dL_law_1396 (fun y9 H locs hy9 G => ?_)
      subst hy9
      refine lv_istore (lv' := [(6, _), (5, .int (iZ (2))), (0, .ref t), (1, .ref o), (2, .ref u), (3, .ref w), (4, .int (iZ (x)))]) C.1 C.2.1 dL_law_1399 hl (by decide) rfl (fun ls hl => ?_)
      refine lv_goto (tgt := 2200) C.1 C.2.1 dL_law_1401 (by decide) ?_
      exact kk _ _ _ _ _ _ _ _ _ _ _ _ G (by omega) (by omega) (lv_sub hl [2, 3, 4, 5, 6] rfl)
  · skip
    refine lv_aload_n C.1 C.2.1 dL_law_1364 rfl (lv_at hl 1 rfl) ?_
    refine lv_aload_n C.1 C.2.1 dL_law_1365 rfl (lv_at hl 0 rfl) ?_
    refine lv_iload C.1 C.2.1 dL_law_1366 (lv_at hl 4 rfl) ?_
    refine z_iconst C dL_law_1368 ?_
    refine z_iadd C dL_law_1369 ?_
    refine zd_ld C Z G q1 (x.toNat + 1) e1 (by omega) (by omega) dL_law_1370 ?_
    refine lv_aload_n C.1 C.2.1 dL_law_1371 rfl (lv_at hl 0 rfl) ?_
    refine lv_iload C.1 C.2.1 dL_law_1372 (lv_at hl 4 rfl) ?_
    refine z_iconst C dL_law_1374 ?_
    refine z_iadd C dL_law_1375 ?_
    refine zd_ld C Z G q2 (x.toNat + 2) e2 (by omega) (by omega) dL_law_1376 ?_
    refine lv_aload_n C.1 C.2.1 dL_law_1377 rfl (lv_at hl 3 rfl) ?_
    refine zd_W (as := [.ref o, .int (iZ (q1)), .int (iZ (q2)), .ref w]) C Z Y G (c_L_field_badc l hlq D cJ o a _ _ _ _ (q1) (q2) (by first | assumption | omega) (by first | assumption | omega) (by first | assumption | omega) w _ _) ml_L_244 ⟨Nat.le_of_ble_eq_true rfl, Nat.le_of_ble_eq_true rfl⟩ ⟨by show cells + 0 + 1 ≤ 665281; omega, by show slots + 0 + 6 ≤ 7105636; omega⟩ hl (Nat.le_of_ble_eq_true rfl) rfl dL_law_1378 (fun H locs G => ?_)
    refine lv_istore (lv' := [(5, .int (iZ (1))), (0, .ref t), (1, .ref o), (2, .ref u), (3, .ref w), (4, .int (iZ (x)))]) C.1 C.2.1 dL_law_1381 hl (by decide) rfl (fun ls hl => ?_)
    refine lv_aload_n C.1 C.2.1 dL_law_1383 rfl (lv_at hl 3 rfl) ?_
    refine lv_aload_n C.1 C.2.1 dL_law_1384 rfl (lv_at hl 1 rfl) ?_
    refine lv_iload C.1 C.2.1 dL_law_1385 (lv_at hl 5 rfl) ?_
    refine z_iconst C dL_law_1387 ?_
    refine z_iadd C dL_law_1388 ?_
    refine zd_ld C Z G q1 (x.toNat + 1) e1 (by omega) (by omega) dL_law_1389 ?_
    refine lv_aload_n C.1 C.2.1 dL_law_1390 rfl (lv_at hl 1 rfl) ?_
    refine lv_iload C.1 C.2.1 dL_law_1391 (lv_at hl 5 rfl) ?_
    refine z_iconst C dL_law_1393 ?_
    refine z_iadd C dL_law_1394 ?_
    refine zd_ld C Z G q2 (x.toNat + 2) e2 (by omega) (by omega) dL_law_1395 ?_
    refine zd_M (as := [.int (iZ (q1)), .int (iZ (q2))]) C Y G (c_X5_field_bad1 l D cJ u v _ _ _ _ _ (q1) (q2) (by first | assumption | omega) (by first | assumption | omega) (by first | assumption | omega)) ml_L_246 rfl ⟨Nat.le_of_ble_eq_true rfl, Nat.le_of_ble_eq_true rfl⟩ ⟨by show cells + 1 + 0 ≤ 665281; omega, by show slots + 6 + 0 ≤ 7105636; omega⟩ hl (Nat.le_of_ble_eq_true rfl) rfl dL_law_1396 (fun y9 H locs hy9 G => ?_)
    subst hy9
    refine lv_istore (lv' := [(6, _), (5, .int (iZ (1))), (0, .ref t), (1, .ref o), (2, .ref u), (3, .ref w), (4, .int (iZ (x)))]) C.1 C.2.1 dL_law_1399 hl (by decide) rfl (fun ls hl => ?_)
    refine lv_goto (tgt := 2200) C.1 C.2.1 dL_law_1401 (by decide) ?_
    exact kk _ _ _ _ _ _ _ _ _ _ _ _ G (by omega) (by omega) (lv_sub hl [2, 3, 4, 5, 6] rfl)
set_option maxHeartbeats 4000000 in
set_option maxRecDepth 100000 in
theorem lk_23 (hlq : l.stackTraces = false) (C : CallFix p m c0 cL_law 7 s args T0 RL) (Z : zLw D cB t N g s) (Y : zAd o a u v w s) {c : Nat → Nat} {ac re kn : Int32} {th : Int} {n : Int64} {sv : Value} {H : Heap} {locs : List Loc} {ls : Array Slot} {cells slots : Nat} (G : zG D cJ o a u v w c [.int ac, .int re, .int kn] c [.int (iZ th), .int ac, .int re, .int kn] n sv s H locs) (x : Int) (hx : 0 ≤ x ∧ x + 5 ≤ (N : Int)) (hf : cells + 150 ≤ 665281 ∧ slots + 75000 ≤ 7105636) (hl : lv_has ls 7 [(0, .ref t), (1, .ref o), (2, .ref u), (3, .ref w), (4, .int (iZ (x)))])
    (kk : zNx p l e s m args below meth c0 D cJ t o a u v w x cells slots Qw 2200) : W p l e room_1 s m args below meth c0 H locs cells slots Qw (F0 m 1404 ls []) := by
  have hc := G.1.2.2.2
  obtain ⟨q1, e1⟩ : ∃ z, g (x.toNat + 1) = z := ⟨_, rfl⟩
  have r1 : -2147483648 ≤ q1 ∧ q1 ≤ 2147483647 := e1 ▸ Z.2.2.2.2.2.1 _
  obtain ⟨q2, e2⟩ : ∃ z, g (x.toNat + 2) = z := ⟨_, rfl⟩
  have r2 : -2147483648 ≤ q2 ∧ q2 ≤ 2147483647 := e2 ▸ Z.2.2.2.2.2.1 _
  obtain ⟨q3, e3⟩ : ∃ z, g (x.toNat + 3) = z := ⟨_, rfl⟩
  have r3 : -2147483648 ≤ q3 ∧ q3 ≤ 2147483647 := e3 ▸ Z.2.2.2.2.2.1 _
  by_cases hcel : (0 ≤ q1 ∧ q1 ≤ 5) ∧ (0 ≤ q3 ∧ q3 ≤ 5)
  · skip
    by_cases hrng : (2 ≤ q2 ∧ q2 ≤ 36)
    · skip
      refine lv_aload_n C.1 C.2.1 dL_law_1404 rfl (lv_at hl 1 rfl) ?_
      refine lv_aload_n C.1 C.2.1 dL_law_1405 rfl (lv_at hl 0 rfl) ?_
      refine lv_iload C.1 C.2.1 dL_law_1406 (lv_at hl 4 rfl) ?_
      refine z_iconst C dL_law_1408 ?_
      refine z_iadd C dL_law_1409 ?_
      refine zd_ld C Z G q1 (x.toNat + 1) e1 (by omega) (by omega) dL_law_1410 ?_
      refine lv_aload_n C.1 C.2.1 dL_law_1411 rfl (lv_at hl 0 rfl) ?_
      refine lv_iload C.1 C.2.1 dL_law_1412 (lv_at hl 4 rfl) ?_
      refine z_iconst C dL_law_1414 ?_
      refine z_iadd C dL_law_1415 ?_
      refine zd_ld C Z G q2 (x.toNat + 2) e2 (by omega) (by omega) dL_law_1416 ?_
      refine lv_aload_n C.1 C.2.1 dL_law_1417 rfl (lv_at hl 0 rfl) ?_
      refine lv_iload C.1 C.2.1 dL_law_1418 (lv_at hl 4 rfl) ?_
      refine z_iconst C dL_law_1420 ?_
      refine z_iadd C dL_law_1421 ?_
      refine zd_ld C Z G q3 (x.toNat + 3) e3 (by omega) (by omega) dL_law_1422 ?_
      refine lv_aload_n C.1 C.2.1 dL_law_1423 rfl (lv_at hl 3 rfl) ?_
      refine zd_W (as := [.ref o, .int (iZ (q1)), .int (iZ (q2)), .int (iZ (q3)), .ref w]) C Z Y G (c_L_again l D cJ o a _ _ _ _ (q1) (q2) (q3) (by first | assumption | omega) (by first | assumption | omega) (by first | assumption | omega) w _ _) ml_L_247 ⟨Nat.le_of_ble_eq_true rfl, Nat.le_of_ble_eq_true rfl⟩ ⟨by show cells + 0 + 0 ≤ 665281; omega, by show slots + 0 + 0 ≤ 7105636; omega⟩ hl (Nat.le_of_ble_eq_true rfl) rfl dL_law_1424 (fun H locs G => ?_)
      refine lv_istore (lv' := [(5, .int (iZ (0))), (0, .ref t), (1, .ref o), (2, .ref u), (3, .ref w), (4, .int (iZ (x)))]) C.1 C.2.1 dL_law_1427 hl (by decide) rfl (fun ls hl => ?_)
      refine lv_aload_n C.1 C.2.1 dL_law_1429 rfl (lv_at hl 3 rfl) ?_
      refine lv_aload_n C.1 C.2.1 dL_law_1430 rfl (lv_at hl 1 rfl) ?_
      refine lv_iload C.1 C.2.1 dL_law_1431 (lv_at hl 5 rfl) ?_
      refine z_iconst C dL_law_1433 ?_
      refine z_iadd C dL_law_1434 ?_
      refine zd_ld C Z G q1 (x.toNat + 1) e1 (by omega) (by omega) dL_law_1435 ?_
      refine lv_aload_n C.1 C.2.1 dL_law_1436 rfl (lv_at hl 1 rfl) ?_
      refine lv_iload C.1 C.2.1 dL_law_1437 (lv_at hl 5 rfl) ?_
      refine z_iconst C dL_law_1439 ?_
      refine z_iadd C dL_law_1440 ?_
      refine zd_ld C Z G q2 (x.toNat + 2) e2 (by omega) (by omega) dL_law_1441 ?_
      refine lv_aload_n C.1 C.2.1 dL_law_1442 rfl (lv_at hl 1 rfl) ?_
      refine lv_iload C.1 C.2.1 dL_law_1443 (lv_at hl 5 rfl) ?_
      refine z_iconst C dL_law_1445 ?_
      refine z_iadd C dL_law_1446 ?_
      refine zd_ld C Z G q3 (x.toNat + 3) e3 (by omega) (by omega) dL_law_1447 ?_
      refine zd_M (as := [.int (iZ (q1)), .int (iZ (q2)), .int (iZ (q3))]) C Y G (c_X5_again l D cJ u v _ _ _ _ _ (q1) (q2) (q3) (by first | assumption | omega) (by first | assumption | omega) (by first | assumption | omega)) ml_L_249 rfl ⟨Nat.le_of_ble_eq_true rfl, Nat.le_of_ble_eq_true rfl⟩ ⟨by show cells + 0 + 0 ≤ 665281; omega, by show slots + 0 + 0 ≤ 7105636; omega⟩ hl (Nat.le_of_ble_eq_true rfl) rfl dL_law_1448 (fun y9 H locs hy9 G => ?_)
      subst hy9
      refine lv_istore (lv' := [(6, _), (5, .int (iZ (0))), (0, .ref t), (1, .ref o), (2, .ref u), (3, .ref w), (4, .int (iZ (x)))]) C.1 C.2.1 dL_law_1451 hl (by decide) rfl (fun ls hl => ?_)
      refine lv_goto (tgt := 2200) C.1 C.2.1 dL_law_1453 (by decide) ?_
      exact kk _ _ _ _ _ _ _ _ _ _ _ _ G (by omega) (by omega) (lv_sub hl [2, 3, 4, 5, 6] rfl)
    · skip
      refine lv_aload_n C.1 C.2.1 dL_law_1404 rfl (lv_at hl 1 rfl) ?_
      refine lv_aload_n C.1 C.2.1 dL_law_1405 rfl (lv_at hl 0 rfl) ?_
      refine lv_iload C.1 C.2.1 dL_law_1406 (lv_at hl 4 rfl) ?_
      refine z_iconst C dL_law_1408 ?_
      refine z_iadd C dL_law_1409 ?_
      refine zd_ld C Z G q1 (x.toNat + 1) e1 (by omega) (by omega) dL_law_1410 ?_
      refine lv_aload_n C.1 C.2.1 dL_law_1411 rfl (lv_at hl 0 rfl) ?_
      refine lv_iload C.1 C.2.1 dL_law_1412 (lv_at hl 4 rfl) ?_
      refine z_iconst C dL_law_1414 ?_
      refine z_iadd C dL_law_1415 ?_
      refine zd_ld C Z G q2 (x.toNat + 2) e2 (by omega) (by omega) dL_law_1416 ?_
      refine lv_aload_n C.1 C.2.1 dL_law_1417 rfl (lv_at hl 0 rfl) ?_
      refine lv_iload C.1 C.2.1 dL_law_1418 (lv_at hl 4 rfl) ?_
      refine z_iconst C dL_law_1420 ?_
      refine z_iadd C dL_law_1421 ?_
      refine zd_ld C Z G q3 (x.toNat + 3) e3 (by omega) (by omega) dL_law_1422 ?_
      refine lv_aload_n C.1 C.2.1 dL_law_1423 rfl (lv_at hl 3 rfl) ?_
      refine zd_W (as := [.ref o, .int (iZ (q1)), .int (iZ (q2)), .int (iZ (q3)), .ref w]) C Z Y G (c_L_again_badr l hlq D cJ o a _ _ _ _ (q1) (q2) (q3) (by first | assumption | omega) (by first | assumption | omega) (by first | assumption | omega) (by first | assumption | omega) (by first | assumption | omega) (by first | assumption | omega) w _ _) ml_L_247 ⟨Nat.le_of_ble_eq_true rfl, Nat.le_of_ble_eq_true rfl⟩ ⟨by show cells + 0 + 1 ≤ 665281; omega, by show slots + 0 + 6 ≤ 7105636; omega⟩ hl (Nat.le_of_ble_eq_true rfl) rfl dL_law_1424 (fun H locs G => ?_)
      refine lv_istore (lv' := [(5, .int (iZ (2))), (0, .ref t), (1, .ref o), (2, .ref u), (3, .ref w), (4, .int (iZ (x)))]) C.1 C.2.1 dL_law_1427 hl (by decide) rfl (fun ls hl => ?_)
      refine lv_aload_n C.1 C.2.1 dL_law_1429 rfl (lv_at hl 3 rfl) ?_
      refine lv_aload_n C.1 C.2.1 dL_law_1430 rfl (lv_at hl 1 rfl) ?_
      refine lv_iload C.1 C.2.1 dL_law_1431 (lv_at hl 5 rfl) ?_
      refine z_iconst C dL_law_1433 ?_
      refine z_iadd C dL_law_1434 ?_
      refine zd_ld C Z G q1 (x.toNat + 1) e1 (by omega) (by omega) dL_law_1435 ?_
      refine lv_aload_n C.1 C.2.1 dL_law_1436 rfl (lv_at hl 1 rfl) ?_
      refine lv_iload C.1 C.2.1 dL_law_1437 (lv_at hl 5 rfl) ?_
      refine z_iconst C dL_law_1439 ?_
      refine z_iadd C dL_law_1440 ?_
      refine zd_ld C Z G q2 (x.toNat + 2) e2 (by omega) (by omega) dL_law_1441 ?_
      refine lv_aload_n C.1 C.2.1 dL_law_1442 rfl (lv_at hl 1 rfl) ?_
      refine lv_iload C.1 C.2.1 dL_law_1443 (lv_at hl 5 rfl) ?_
      refine z_iconst C dL_law_1445 ?_
      refine z_iadd C dL_law_1446 ?_
      refine zd_ld C Z G q3 (x.toNat + 3) e3 (by omega) (by omega) dL_law_1447 ?_
      refine zd_M (as := [.int (iZ (q1)), .int (iZ (q2)), .int (iZ (q3))]) C Y G (c_X5_again_bad2 l D cJ u v _ _ _ _ _ (q1) (q2) (q3) (by first | assumption | omega) (by first | assumption | omega) (by first | assumption | omega) (by first | assumption | omega) (by first | assumption | omega)) ml_L_249 rfl ⟨Nat.le_of_ble_eq_true rfl, Nat.le_of_ble_eq_true rfl⟩ ⟨by show cells + 1 + 0 ≤ 665281; omega, by show slots + 6 + 0 ≤ 7105636; omega⟩ hl (Nat.le_of_ble_eq_true rfl) rfl dL_law_1448 (fun y9 H locs hy9 G => ?_)
      subst hy9
      refine lv_istore (lv' := [(6, _), (5, .int (iZ (2))), (0, .ref t), (1, .ref o), (2, .ref u), (3, .ref w), (4, .int (iZ (x)))]) C.1 C.2.1 dL_law_1451 hl (by decide) rfl (fun ls hl => ?_)
      refine lv_goto (tgt := 2200) C.1 C.2.1 dL_law_1453 (by decide) ?_
      exact kk _ _ _ _ _ _ _ _ _ _ _ _ G (by omega) (by omega) (lv_sub hl [2, 3, 4, 5, 6] rfl)
  · skip
    refine lv_aload_n C.1 C.2.1 dL_law_1404 rfl (lv_at hl 1 rfl) ?_
    refine lv_aload_n C.1 C.2.1 dL_law_1405 rfl (lv_at hl 0 rfl) ?_
    refine lv_iload C.1 C.2.1 dL_law_1406 (lv_at hl 4 rfl) ?_
    refine z_iconst C dL_law_1408 ?_
    refine z_iadd C dL_law_1409 ?_
    refine zd_ld C Z G q1 (x.toNat + 1) e1 (by omega) (by omega) dL_law_1410 ?_
    refine lv_aload_n C.1 C.2.1 dL_law_1411 rfl (lv_at hl 0 rfl) ?_
    refine lv_iload C.1 C.2.1 dL_law_1412 (lv_at hl 4 rfl) ?_
    refine z_iconst C dL_law_1414 ?_
    refine z_iadd C dL_law_1415 ?_
    refine zd_ld C Z G q2 (x.toNat + 2) e2 (by omega) (by omega) dL_law_1416 ?_
    refine lv_aload_n C.1 C.2.1 dL_law_1417 rfl (lv_at hl 0 rfl) ?_
    refine lv_iload C.1 C.2.1 dL_law_1418 (lv_at hl 4 rfl) ?_
    refine z_iconst C dL_law_1420 ?_
    refine z_iadd C dL_law_1421 ?_
    refine zd_ld C Z G q3 (x.toNat + 3) e3 (by omega) (by omega) dL_law_1422 ?_
    refine lv_aload_n C.1 C.2.1 dL_law_1423 rfl (lv_at hl 3 rfl) ?_
    refine zd_W (as := [.ref o, .int (iZ (q1)), .int (iZ (q2)), .int (iZ (q3)), .ref w]) C Z Y G (c_L_again_badc l hlq D cJ o a _ _ _ _ (q1) (q2) (q3) (by first | assumption | omega) (by first | assumption | omega) (by first | assumption | omega) (by first | assumption | omega) w _ _) ml_L_247 ⟨Nat.le_of_ble_eq_true rfl, Nat.le_of_ble_eq_true rfl⟩ ⟨by show cells + 0 + 1 ≤ 665281; omega, by show slots + 0 + 6 ≤ 7105636; omega⟩ hl (Nat.le_of_ble_eq_true rfl) rfl dL_law_1424 (fun H locs G => ?_)
    refine lv_istore (lv' := [(5, .int (iZ (1))), (0, .ref t), (1, .ref o), (2, .ref u), (3, .ref w), (4, .int (iZ (x)))]) C.1 C.2.1 dL_law_1427 hl (by decide) rfl (fun ls hl => ?_)
    refine lv_aload_n C.1 C.2.1 dL_law_1429 rfl (lv_at hl 3 rfl) ?_
    refine lv_aload_n C.1 C.2.1 dL_law_1430 rfl (lv_at hl 1 rfl) ?_
    refine lv_iload C.1 C.2.1 dL_law_1431 (lv_at hl 5 rfl) ?_
    refine z_iconst C dL_law_1433 ?_
    refine z_iadd C dL_law_1434 ?_
    refine zd_ld C Z G q1 (x.toNat + 1) e1 (by omega) (by omega) dL_law_1435 ?_
    refine lv_aload_n C.1 C.2.1 dL_law_1436 rfl (lv_at hl 1 rfl) ?_
    refine lv_iload C.1 C.2.1 dL_law_1437 (lv_at hl 5 rfl) ?_
    refine z_iconst C dL_law_1439 ?_
    refine z_iadd C dL_law_1440 ?_
    refine zd_ld C Z G q2 (x.toNat + 2) e2 (by omega) (by omega) dL_law_1441 ?_
    refine lv_aload_n C.1 C.2.1 dL_law_1442 rfl (lv_at hl 1 rfl) ?_
    refine lv_iload C.1 C.2.1 dL_law_1443 (lv_at hl 5 rfl) ?_
    refine z_iconst C dL_law_1445 ?_
    refine z_iadd C dL_law_1446 ?_
    refine zd_ld C Z G q3 (x.toNat + 3) e3 (by omega) (by omega) dL_law_1447 ?_
    refine zd_M (as := [.int (iZ (q1)), .int (iZ (q2)), .int (iZ (q3))]) C Y G (c_X5_again_bad1 l D cJ u v _ _ _ _ _ (q1) (q2) (q3) (by first | assumption | omega) (by first | assumption | omega) (by first | assumption | omega) (by first | assumption | omega)) ml_L_249 rfl ⟨Nat.le_of_ble_eq_true rfl, Nat.le_of_ble_eq_true rfl⟩ ⟨by show cells + 1 + 0 ≤ 665281; omega, by show slots + 6 + 0 ≤ 7105636; omega⟩ hl (Nat.le_of_ble_eq_true rfl) rfl dL_law_1448 (fun y9 H locs hy9 G => ?_)
    subst hy9
    refine lv_istore (lv' := [(6, _), (5, .int (iZ (1))), (0, .ref t), (1, .ref o), (2, .ref u), (3, .ref w), (4, .int (iZ (x)))]) C.1 C.2.1 dL_law_1451 hl (by decide) rfl (fun ls hl => ?_)
    refine lv_goto (tgt := 2200) C.1 C.2.1 dL_law_1453 (by decide) ?_
    exact kk _ _ _ _ _ _ _ _ _ _ _ _ G (by omega) (by omega) (lv_sub hl [2, 3, 4, 5, 6] rfl)
set_option maxHeartbeats 4000000 in
set_option maxRecDepth 100000 in
theorem lk_24 (hlq : l.stackTraces = false) (C : CallFix p m c0 cL_law 7 s args T0 RL) (Z : zLw D cB t N g s) (Y : zAd o a u v w s) {c : Nat → Nat} {ac re kn : Int32} {th : Int} {n : Int64} {sv : Value} {H : Heap} {locs : List Loc} {ls : Array Slot} {cells slots : Nat} (G : zG D cJ o a u v w c [.int ac, .int re, .int kn] c [.int (iZ th), .int ac, .int re, .int kn] n sv s H locs) (x : Int) (hx : 0 ≤ x ∧ x + 5 ≤ (N : Int)) (hf : cells + 150 ≤ 665281 ∧ slots + 75000 ≤ 7105636) (hl : lv_has ls 7 [(0, .ref t), (1, .ref o), (2, .ref u), (3, .ref w), (4, .int (iZ (x)))])
    (kk : zNx p l e s m args below meth c0 D cJ t o a u v w x cells slots Qw 2200) : W p l e room_1 s m args below meth c0 H locs cells slots Qw (F0 m 1456 ls []) := by
  have hc := G.1.2.2.2
  obtain ⟨q1, e1⟩ : ∃ z, g (x.toNat + 1) = z := ⟨_, rfl⟩
  have r1 : -2147483648 ≤ q1 ∧ q1 ≤ 2147483647 := e1 ▸ Z.2.2.2.2.2.1 _
  by_cases hcel : (0 ≤ q1 ∧ q1 ≤ 5)
  · skip
    refine lv_aload_n C.1 C.2.1 dL_law_1456 rfl (lv_at hl 1 rfl) ?_
    refine lv_aload_n C.1 C.2.1 dL_law_1457 rfl (lv_at hl 0 rfl) ?_
    refine lv_iload C.1 C.2.1 dL_law_1458 (lv_at hl 4 rfl) ?_
    refine z_iconst C dL_law_1460 ?_
    refine z_iadd C dL_law_1461 ?_
    refine zd_ld C Z G q1 (x.toNat + 1) e1 (by omega) (by omega) dL_law_1462 ?_
    refine lv_aload_n C.1 C.2.1 dL_law_1463 rfl (lv_at hl 3 rfl) ?_
    refine zd_W (as := [.ref o, .int (iZ (q1)), .ref w]) C Z Y G (c_L_degree l D cJ o a _ _ _ _ (q1) (by first | assumption | omega) w _ _) ml_L_250 ⟨Nat.le_of_ble_eq_true rfl, Nat.le_of_ble_eq_true rfl⟩ ⟨by show cells + 0 + 0 ≤ 665281; omega, by show slots + 0 + 0 ≤ 7105636; omega⟩ hl (Nat.le_of_ble_eq_true rfl) rfl dL_law_1464 (fun H locs G => ?_)
    refine lv_istore (lv' := [(5, .int (iZ (0))), (0, .ref t), (1, .ref o), (2, .ref u), (3, .ref w), (4, .int (iZ (x)))]) C.1 C.2.1 dL_law_1467 hl (by decide) rfl (fun ls hl => ?_)
    refine lv_aload_n C.1 C.2.1 dL_law_1469 rfl (lv_at hl 3 rfl) ?_
    refine lv_aload_n C.1 C.2.1 dL_law_1470 rfl (lv_at hl 1 rfl) ?_
    refine lv_iload C.1 C.2.1 dL_law_1471 (lv_at hl 5 rfl) ?_
    refine z_iconst C dL_law_1473 ?_
    refine z_iadd C dL_law_1474 ?_
    refine zd_ld C Z G q1 (x.toNat + 1) e1 (by omega) (by omega) dL_law_1475 ?_
    refine zd_M (as := [.int (iZ (q1))]) C Y G (c_X5_degree l D cJ u v _ _ _ _ _ (q1) (by first | assumption | omega)) ml_L_253 rfl ⟨Nat.le_of_ble_eq_true rfl, Nat.le_of_ble_eq_true rfl⟩ ⟨by show cells + 0 + 0 ≤ 665281; omega, by show slots + 0 + 0 ≤ 7105636; omega⟩ hl (Nat.le_of_ble_eq_true rfl) rfl dL_law_1476 (fun y9 H locs hy9 G => ?_)
    subst hy9
    refine lv_istore (lv' := [(6, _), (5, .int (iZ (0))), (0, .ref t), (1, .ref o), (2, .ref u), (3, .ref w), (4, .int (iZ (x)))]) C.1 C.2.1 dL_law_1479 hl (by decide) rfl (fun ls hl => ?_)
    refine lv_goto (tgt := 2200) C.1 C.2.1 dL_law_1481 (by decide) ?_
    exact kk _ _ _ _ _ _ _ _ _ _ _ _ G (by omega) (by omega) (lv_sub hl [2, 3, 4, 5, 6] rfl)
  · skip
    refine lv_aload_n C.1 C.2.1 dL_law_1456 rfl (lv_at hl 1 rfl) ?_
    refine lv_aload_n C.1 C.2.1 dL_law_1457 rfl (lv_at hl 0 rfl) ?_
    refine lv_iload C.1 C.2.1 dL_law_1458 (lv_at hl 4 rfl) ?_
    refine z_iconst C dL_law_1460 ?_
    refine z_iadd C dL_law_1461 ?_
    refine zd_ld C Z G q1 (x.toNat + 1) e1 (by omega) (by omega) dL_law_1462 ?_
    refine lv_aload_n C.1 C.2.1 dL_law_1463 rfl (lv_at hl 3 rfl) ?_
    refine zd_W (as := [.ref o, .int (iZ (q1)), .ref w]) C Z Y G (c_L_degree_badc l hlq D cJ o a _ _ _ _ (q1) (by first | assumption | omega) (by first | assumption | omega) w _ _) ml_L_250 ⟨Nat.le_of_ble_eq_true rfl, Nat.le_of_ble_eq_true rfl⟩ ⟨by show cells + 0 + 1 ≤ 665281; omega, by show slots + 0 + 6 ≤ 7105636; omega⟩ hl (Nat.le_of_ble_eq_true rfl) rfl dL_law_1464 (fun H locs G => ?_)
    refine lv_istore (lv' := [(5, .int (iZ (1))), (0, .ref t), (1, .ref o), (2, .ref u), (3, .ref w), (4, .int (iZ (x)))]) C.1 C.2.1 dL_law_1467 hl (by decide) rfl (fun ls hl => ?_)
    refine lv_aload_n C.1 C.2.1 dL_law_1469 rfl (lv_at hl 3 rfl) ?_
    refine lv_aload_n C.1 C.2.1 dL_law_1470 rfl (lv_at hl 1 rfl) ?_
    refine lv_iload C.1 C.2.1 dL_law_1471 (lv_at hl 5 rfl) ?_
    refine z_iconst C dL_law_1473 ?_
    refine z_iadd C dL_law_1474 ?_
    refine zd_ld C Z G q1 (x.toNat + 1) e1 (by omega) (by omega) dL_law_1475 ?_
    refine zd_M (as := [.int (iZ (q1))]) C Y G (c_X5_degree_bad1 l D cJ u v _ _ _ _ _ (q1) (by first | assumption | omega) (by first | assumption | omega)) ml_L_253 rfl ⟨Nat.le_of_ble_eq_true rfl, Nat.le_of_ble_eq_true rfl⟩ ⟨by show cells + 1 + 0 ≤ 665281; omega, by show slots + 6 + 0 ≤ 7105636; omega⟩ hl (Nat.le_of_ble_eq_true rfl) rfl dL_law_1476 (fun y9 H locs hy9 G => ?_)
    subst hy9
    refine lv_istore (lv' := [(6, _), (5, .int (iZ (1))), (0, .ref t), (1, .ref o), (2, .ref u), (3, .ref w), (4, .int (iZ (x)))]) C.1 C.2.1 dL_law_1479 hl (by decide) rfl (fun ls hl => ?_)
    refine lv_goto (tgt := 2200) C.1 C.2.1 dL_law_1481 (by decide) ?_
    exact kk _ _ _ _ _ _ _ _ _ _ _ _ G (by omega) (by omega) (lv_sub hl [2, 3, 4, 5, 6] rfl)
set_option maxHeartbeats 4000000 in
set_option maxRecDepth 100000 in
theorem lk_25 (hlq : l.stackTraces = false) (C : CallFix p m c0 cL_law 7 s args T0 RL) (Z : zLw D cB t N g s) (Y : zAd o a u v w s) {c : Nat → Nat} {ac re kn : Int32} {th : Int} {n : Int64} {sv : Value} {H : Heap} {locs : List Loc} {ls : Array Slot} {cells slots : Nat} (G : zG D cJ o a u v w c [.int ac, .int re, .int kn] c [.int (iZ th), .int ac, .int re, .int kn] n sv s H locs) (x : Int) (hx : 0 ≤ x ∧ x + 5 ≤ (N : Int)) (hf : cells + 150 ≤ 665281 ∧ slots + 75000 ≤ 7105636) (hl : lv_has ls 7 [(0, .ref t), (1, .ref o), (2, .ref u), (3, .ref w), (4, .int (iZ (x)))])
    (kk : zNx p l e s m args below meth c0 D cJ t o a u v w x cells slots Qw 2200) : W p l e room_1 s m args below meth c0 H locs cells slots Qw (F0 m 1484 ls []) := by
  have hc := G.1.2.2.2
  obtain ⟨q1, e1⟩ : ∃ z, g (x.toNat + 1) = z := ⟨_, rfl⟩
  have r1 : -2147483648 ≤ q1 ∧ q1 ≤ 2147483647 := e1 ▸ Z.2.2.2.2.2.1 _
  by_cases hcel : (0 ≤ q1 ∧ q1 ≤ 5)
  · skip
    refine lv_aload_n C.1 C.2.1 dL_law_1484 rfl (lv_at hl 1 rfl) ?_
    refine lv_aload_n C.1 C.2.1 dL_law_1485 rfl (lv_at hl 0 rfl) ?_
    refine lv_iload C.1 C.2.1 dL_law_1486 (lv_at hl 4 rfl) ?_
    refine z_iconst C dL_law_1488 ?_
    refine z_iadd C dL_law_1489 ?_
    refine zd_ld C Z G q1 (x.toNat + 1) e1 (by omega) (by omega) dL_law_1490 ?_
    refine lv_aload_n C.1 C.2.1 dL_law_1491 rfl (lv_at hl 3 rfl) ?_
    refine zd_W (as := [.ref o, .int (iZ (q1)), .ref w]) C Z Y G (c_L_low l D cJ o a _ _ _ _ (q1) (by first | assumption | omega) w _ _) ml_L_254 ⟨Nat.le_of_ble_eq_true rfl, Nat.le_of_ble_eq_true rfl⟩ ⟨by show cells + 0 + 0 ≤ 665281; omega, by show slots + 0 + 0 ≤ 7105636; omega⟩ hl (Nat.le_of_ble_eq_true rfl) rfl dL_law_1492 (fun H locs G => ?_)
    refine lv_istore (lv' := [(5, .int (iZ (0))), (0, .ref t), (1, .ref o), (2, .ref u), (3, .ref w), (4, .int (iZ (x)))]) C.1 C.2.1 dL_law_1495 hl (by decide) rfl (fun ls hl => ?_)
    refine lv_aload_n C.1 C.2.1 dL_law_1497 rfl (lv_at hl 3 rfl) ?_
    refine lv_aload_n C.1 C.2.1 dL_law_1498 rfl (lv_at hl 1 rfl) ?_
    refine lv_iload C.1 C.2.1 dL_law_1499 (lv_at hl 5 rfl) ?_
    refine z_iconst C dL_law_1501 ?_
    refine z_iadd C dL_law_1502 ?_
    refine zd_ld C Z G q1 (x.toNat + 1) e1 (by omega) (by omega) dL_law_1503 ?_
    refine zd_M (as := [.int (iZ (q1))]) C Y G (c_X5_low l D cJ u v _ _ _ _ _ (q1) (by first | assumption | omega)) ml_L_256 rfl ⟨Nat.le_of_ble_eq_true rfl, Nat.le_of_ble_eq_true rfl⟩ ⟨by show cells + 0 + 0 ≤ 665281; omega, by show slots + 0 + 0 ≤ 7105636; omega⟩ hl (Nat.le_of_ble_eq_true rfl) rfl dL_law_1504 (fun y9 H locs hy9 G => ?_)
    subst hy9
    refine lv_istore (lv' := [(6, _), (5, .int (iZ (0))), (0, .ref t), (1, .ref o), (2, .ref u), (3, .ref w), (4, .int (iZ (x)))]) C.1 C.2.1 dL_law_1507 hl (by decide) rfl (fun ls hl => ?_)
    refine lv_goto (tgt := 2200) C.1 C.2.1 dL_law_1509 (by decide) ?_
    exact kk _ _ _ _ _ _ _ _ _ _ _ _ G (by omega) (by omega) (lv_sub hl [2, 3, 4, 5, 6] rfl)
  · skip
    refine lv_aload_n C.1 C.2.1 dL_law_1484 rfl (lv_at hl 1 rfl) ?_
    refine lv_aload_n C.1 C.2.1 dL_law_1485 rfl (lv_at hl 0 rfl) ?_
    refine lv_iload C.1 C.2.1 dL_law_1486 (lv_at hl 4 rfl) ?_
    refine z_iconst C dL_law_1488 ?_
    refine z_iadd C dL_law_1489 ?_
    refine zd_ld C Z G q1 (x.toNat + 1) e1 (by omega) (by omega) dL_law_1490 ?_
    refine lv_aload_n C.1 C.2.1 dL_law_1491 rfl (lv_at hl 3 rfl) ?_
    refine zd_W (as := [.ref o, .int (iZ (q1)), .ref w]) C Z Y G (c_L_low_badc l hlq D cJ o a _ _ _ _ (q1) (by first | assumption | omega) (by first | assumption | omega) w _ _) ml_L_254 ⟨Nat.le_of_ble_eq_true rfl, Nat.le_of_ble_eq_true rfl⟩ ⟨by show cells + 0 + 1 ≤ 665281; omega, by show slots + 0 + 6 ≤ 7105636; omega⟩ hl (Nat.le_of_ble_eq_true rfl) rfl dL_law_1492 (fun H locs G => ?_)
    refine lv_istore (lv' := [(5, .int (iZ (1))), (0, .ref t), (1, .ref o), (2, .ref u), (3, .ref w), (4, .int (iZ (x)))]) C.1 C.2.1 dL_law_1495 hl (by decide) rfl (fun ls hl => ?_)
    refine lv_aload_n C.1 C.2.1 dL_law_1497 rfl (lv_at hl 3 rfl) ?_
    refine lv_aload_n C.1 C.2.1 dL_law_1498 rfl (lv_at hl 1 rfl) ?_
    refine lv_iload C.1 C.2.1 dL_law_1499 (lv_at hl 5 rfl) ?_
    refine z_iconst C dL_law_1501 ?_
    refine z_iadd C dL_law_1502 ?_
    refine zd_ld C Z G q1 (x.toNat + 1) e1 (by omega) (by omega) dL_law_1503 ?_
    refine zd_M (as := [.int (iZ (q1))]) C Y G (c_X5_low_bad1 l D cJ u v _ _ _ _ _ (q1) (by first | assumption | omega) (by first | assumption | omega)) ml_L_256 rfl ⟨Nat.le_of_ble_eq_true rfl, Nat.le_of_ble_eq_true rfl⟩ ⟨by show cells + 1 + 0 ≤ 665281; omega, by show slots + 6 + 0 ≤ 7105636; omega⟩ hl (Nat.le_of_ble_eq_true rfl) rfl dL_law_1504 (fun y9 H locs hy9 G => ?_)
    subst hy9
    refine lv_istore (lv' := [(6, _), (5, .int (iZ (1))), (0, .ref t), (1, .ref o), (2, .ref u), (3, .ref w), (4, .int (iZ (x)))]) C.1 C.2.1 dL_law_1507 hl (by decide) rfl (fun ls hl => ?_)
    refine lv_goto (tgt := 2200) C.1 C.2.1 dL_law_1509 (by decide) ?_
    exact kk _ _ _ _ _ _ _ _ _ _ _ _ G (by omega) (by omega) (lv_sub hl [2, 3, 4, 5, 6] rfl)
set_option maxHeartbeats 4000000 in
set_option maxRecDepth 100000 in
theorem lk_26 (hlq : l.stackTraces = false) (C : CallFix p m c0 cL_law 7 s args T0 RL) (Z : zLw D cB t N g s) (Y : zAd o a u v w s) {c : Nat → Nat} {ac re kn : Int32} {th : Int} {n : Int64} {sv : Value} {H : Heap} {locs : List Loc} {ls : Array Slot} {cells slots : Nat} (G : zG D cJ o a u v w c [.int ac, .int re, .int kn] c [.int (iZ th), .int ac, .int re, .int kn] n sv s H locs) (x : Int) (hx : 0 ≤ x ∧ x + 5 ≤ (N : Int)) (hf : cells + 150 ≤ 665281 ∧ slots + 75000 ≤ 7105636) (hl : lv_has ls 7 [(0, .ref t), (1, .ref o), (2, .ref u), (3, .ref w), (4, .int (iZ (x)))])
    (kk : zNx p l e s m args below meth c0 D cJ t o a u v w x cells slots Qw 2200) : W p l e room_1 s m args below meth c0 H locs cells slots Qw (F0 m 1512 ls []) := by
  have hc := G.1.2.2.2
  obtain ⟨q1, e1⟩ : ∃ z, g (x.toNat + 1) = z := ⟨_, rfl⟩
  have r1 : -2147483648 ≤ q1 ∧ q1 ≤ 2147483647 := e1 ▸ Z.2.2.2.2.2.1 _
  by_cases hcel : (0 ≤ q1 ∧ q1 ≤ 5)
  · skip
    refine lv_aload_n C.1 C.2.1 dL_law_1512 rfl (lv_at hl 1 rfl) ?_
    refine lv_aload_n C.1 C.2.1 dL_law_1513 rfl (lv_at hl 0 rfl) ?_
    refine lv_iload C.1 C.2.1 dL_law_1514 (lv_at hl 4 rfl) ?_
    refine z_iconst C dL_law_1516 ?_
    refine z_iadd C dL_law_1517 ?_
    refine zd_ld C Z G q1 (x.toNat + 1) e1 (by omega) (by omega) dL_law_1518 ?_
    refine lv_aload_n C.1 C.2.1 dL_law_1519 rfl (lv_at hl 3 rfl) ?_
    refine zd_W (as := [.ref o, .int (iZ (q1)), .ref w]) C Z Y G (c_L_weight l D cJ o a _ _ _ _ (q1) (by first | assumption | omega) w _ _) ml_L_257 ⟨Nat.le_of_ble_eq_true rfl, Nat.le_of_ble_eq_true rfl⟩ ⟨by show cells + 0 + 0 ≤ 665281; omega, by show slots + 0 + 0 ≤ 7105636; omega⟩ hl (Nat.le_of_ble_eq_true rfl) rfl dL_law_1520 (fun H locs G => ?_)
    refine lv_istore (lv' := [(5, .int (iZ (0))), (0, .ref t), (1, .ref o), (2, .ref u), (3, .ref w), (4, .int (iZ (x)))]) C.1 C.2.1 dL_law_1523 hl (by decide) rfl (fun ls hl => ?_)
    refine lv_aload_n C.1 C.2.1 dL_law_1525 rfl (lv_at hl 3 rfl) ?_
    refine lv_aload_n C.1 C.2.1 dL_law_1526 rfl (lv_at hl 1 rfl) ?_
    refine lv_iload C.1 C.2.1 dL_law_1527 (lv_at hl 5 rfl) ?_
    refine z_iconst C dL_law_1529 ?_
    refine z_iadd C dL_law_1530 ?_
    refine zd_ld C Z G q1 (x.toNat + 1) e1 (by omega) (by omega) dL_law_1531 ?_
    refine zd_M (as := [.int (iZ (q1))]) C Y G (c_X5_weight l D cJ u v _ _ _ _ _ (q1) (by first | assumption | omega)) ml_L_259 rfl ⟨Nat.le_of_ble_eq_true rfl, Nat.le_of_ble_eq_true rfl⟩ ⟨by show cells + 0 + 0 ≤ 665281; omega, by show slots + 0 + 0 ≤ 7105636; omega⟩ hl (Nat.le_of_ble_eq_true rfl) rfl dL_law_1532 (fun y9 H locs hy9 G => ?_)
    subst hy9
    refine lv_istore (lv' := [(6, _), (5, .int (iZ (0))), (0, .ref t), (1, .ref o), (2, .ref u), (3, .ref w), (4, .int (iZ (x)))]) C.1 C.2.1 dL_law_1535 hl (by decide) rfl (fun ls hl => ?_)
    refine lv_goto (tgt := 2200) C.1 C.2.1 dL_law_1537 (by decide) ?_
    exact kk _ _ _ _ _ _ _ _ _ _ _ _ G (by omega) (by omega) (lv_sub hl [2, 3, 4, 5, 6] rfl)
  · skip
    refine lv_aload_n C.1 C.2.1 dL_law_1512 rfl (lv_at hl 1 rfl) ?_
    refine lv_aload_n C.1 C.2.1 dL_law_1513 rfl (lv_at hl 0 rfl) ?_
    refine lv_iload C.1 C.2.1 dL_law_1514 (lv_at hl 4 rfl) ?_
    refine z_iconst C dL_law_1516 ?_
    refine z_iadd C dL_law_1517 ?_
    refine zd_ld C Z G q1 (x.toNat + 1) e1 (by omega) (by omega) dL_law_1518 ?_
    refine lv_aload_n C.1 C.2.1 dL_law_1519 rfl (lv_at hl 3 rfl) ?_
    refine zd_W (as := [.ref o, .int (iZ (q1)), .ref w]) C Z Y G (c_L_weight_badc l hlq D cJ o a _ _ _ _ (q1) (by first | assumption | omega) (by first | assumption | omega) w _ _) ml_L_257 ⟨Nat.le_of_ble_eq_true rfl, Nat.le_of_ble_eq_true rfl⟩ ⟨by show cells + 0 + 1 ≤ 665281; omega, by show slots + 0 + 6 ≤ 7105636; omega⟩ hl (Nat.le_of_ble_eq_true rfl) rfl dL_law_1520 (fun H locs G => ?_)
    refine lv_istore (lv' := [(5, .int (iZ (1))), (0, .ref t), (1, .ref o), (2, .ref u), (3, .ref w), (4, .int (iZ (x)))]) C.1 C.2.1 dL_law_1523 hl (by decide) rfl (fun ls hl => ?_)
    refine lv_aload_n C.1 C.2.1 dL_law_1525 rfl (lv_at hl 3 rfl) ?_
    refine lv_aload_n C.1 C.2.1 dL_law_1526 rfl (lv_at hl 1 rfl) ?_
    refine lv_iload C.1 C.2.1 dL_law_1527 (lv_at hl 5 rfl) ?_
    refine z_iconst C dL_law_1529 ?_
    refine z_iadd C dL_law_1530 ?_
    refine zd_ld C Z G q1 (x.toNat + 1) e1 (by omega) (by omega) dL_law_1531 ?_
    refine zd_M (as := [.int (iZ (q1))]) C Y G (c_X5_weight_bad1 l D cJ u v _ _ _ _ _ (q1) (by first | assumption | omega) (by first | assumption | omega)) ml_L_259 rfl ⟨Nat.le_of_ble_eq_true rfl, Nat.le_of_ble_eq_true rfl⟩ ⟨by show cells + 1 + 0 ≤ 665281; omega, by show slots + 6 + 0 ≤ 7105636; omega⟩ hl (Nat.le_of_ble_eq_true rfl) rfl dL_law_1532 (fun y9 H locs hy9 G => ?_)
    subst hy9
    refine lv_istore (lv' := [(6, _), (5, .int (iZ (1))), (0, .ref t), (1, .ref o), (2, .ref u), (3, .ref w), (4, .int (iZ (x)))]) C.1 C.2.1 dL_law_1535 hl (by decide) rfl (fun ls hl => ?_)
    refine lv_goto (tgt := 2200) C.1 C.2.1 dL_law_1537 (by decide) ?_
    exact kk _ _ _ _ _ _ _ _ _ _ _ _ G (by omega) (by omega) (lv_sub hl [2, 3, 4, 5, 6] rfl)
set_option maxHeartbeats 4000000 in
set_option maxRecDepth 100000 in
theorem lk_27 (hlq : l.stackTraces = false) (C : CallFix p m c0 cL_law 7 s args T0 RL) (Z : zLw D cB t N g s) (Y : zAd o a u v w s) {c : Nat → Nat} {ac re kn : Int32} {th : Int} {n : Int64} {sv : Value} {H : Heap} {locs : List Loc} {ls : Array Slot} {cells slots : Nat} (G : zG D cJ o a u v w c [.int ac, .int re, .int kn] c [.int (iZ th), .int ac, .int re, .int kn] n sv s H locs) (x : Int) (hx : 0 ≤ x ∧ x + 5 ≤ (N : Int)) (hf : cells + 150 ≤ 665281 ∧ slots + 75000 ≤ 7105636) (hl : lv_has ls 7 [(0, .ref t), (1, .ref o), (2, .ref u), (3, .ref w), (4, .int (iZ (x)))])
    (kk : zNx p l e s m args below meth c0 D cJ t o a u v w x cells slots Qw 2200) : W p l e room_1 s m args below meth c0 H locs cells slots Qw (F0 m 1540 ls []) := by
  have hc := G.1.2.2.2
  obtain ⟨q1, e1⟩ : ∃ z, g (x.toNat + 1) = z := ⟨_, rfl⟩
  have r1 : -2147483648 ≤ q1 ∧ q1 ≤ 2147483647 := e1 ▸ Z.2.2.2.2.2.1 _
  obtain ⟨q2, e2⟩ : ∃ z, g (x.toNat + 2) = z := ⟨_, rfl⟩
  have r2 : -2147483648 ≤ q2 ∧ q2 ≤ 2147483647 := e2 ▸ Z.2.2.2.2.2.1 _
  by_cases hcel : (0 ≤ q1 ∧ q1 ≤ 5)
  · skip
    by_cases hrng : (0 ≤ q2 ∧ q2 ≤ 99)
    · skip
      refine lv_aload_n C.1 C.2.1 dL_law_1540 rfl (lv_at hl 1 rfl) ?_
      refine lv_aload_n C.1 C.2.1 dL_law_1541 rfl (lv_at hl 0 rfl) ?_
      refine lv_iload C.1 C.2.1 dL_law_1542 (lv_at hl 4 rfl) ?_
      refine z_iconst C dL_law_1544 ?_
      refine z_iadd C dL_law_1545 ?_
      refine zd_ld C Z G q1 (x.toNat + 1) e1 (by omega) (by omega) dL_law_1546 ?_
      refine lv_aload_n C.1 C.2.1 dL_law_1547 rfl (lv_at hl 0 rfl) ?_
      refine lv_iload C.1 C.2.1 dL_law_1548 (lv_at hl 4 rfl) ?_
      refine z_iconst C dL_law_1550 ?_
      refine z_iadd C dL_law_1551 ?_
      refine zd_ld C Z G q2 (x.toNat + 2) e2 (by omega) (by omega) dL_law_1552 ?_
      refine lv_aload_n C.1 C.2.1 dL_law_1553 rfl (lv_at hl 3 rfl) ?_
      refine zd_W (as := [.ref o, .int (iZ (q1)), .int (iZ (q2)), .ref w]) C Z Y G (c_L_at l D cJ o a _ _ _ _ (q1) (q2) (by first | assumption | omega) (by first | assumption | omega) w _ _) ml_L_260 ⟨Nat.le_of_ble_eq_true rfl, Nat.le_of_ble_eq_true rfl⟩ ⟨by show cells + 0 + 0 ≤ 665281; omega, by show slots + 0 + 0 ≤ 7105636; omega⟩ hl (Nat.le_of_ble_eq_true rfl) rfl dL_law_1554 (fun H locs G => ?_)
      refine lv_istore (lv' := [(5, .int (iZ (0))), (0, .ref t), (1, .ref o), (2, .ref u), (3, .ref w), (4, .int (iZ (x)))]) C.1 C.2.1 dL_law_1557 hl (by decide) rfl (fun ls hl => ?_)
      refine lv_aload_n C.1 C.2.1 dL_law_1559 rfl (lv_at hl 3 rfl) ?_
      refine lv_aload_n C.1 C.2.1 dL_law_1560 rfl (lv_at hl 1 rfl) ?_
      refine lv_iload C.1 C.2.1 dL_law_1561 (lv_at hl 5 rfl) ?_
      refine z_iconst C dL_law_1563 ?_
      refine z_iadd C dL_law_1564 ?_
      refine zd_ld C Z G q1 (x.toNat + 1) e1 (by omega) (by omega) dL_law_1565 ?_
      refine lv_aload_n C.1 C.2.1 dL_law_1566 rfl (lv_at hl 1 rfl) ?_
      refine lv_iload C.1 C.2.1 dL_law_1567 (lv_at hl 5 rfl) ?_
      refine z_iconst C dL_law_1569 ?_
      refine z_iadd C dL_law_1570 ?_
      refine zd_ld C Z G q2 (x.toNat + 2) e2 (by omega) (by omega) dL_law_1571 ?_
      refine zd_M (as := [.int (iZ (q1)), .int (iZ (q2))]) C Y G (c_X5_at l D cJ u v _ _ _ _ _ (q1) (q2) (by first | assumption | omega) (by first | assumption | omega)) ml_L_262 rfl ⟨Nat.le_of_ble_eq_true rfl, Nat.le_of_ble_eq_true rfl⟩ ⟨by show cells + 0 + 0 ≤ 665281; omega, by show slots + 0 + 0 ≤ 7105636; omega⟩ hl (Nat.le_of_ble_eq_true rfl) rfl dL_law_1572 (fun y9 H locs hy9 G => ?_)
      subst hy9
      refine lv_istore (lv' := [(6, _), (5, .int (iZ (0))), (0, .ref t), (1, .ref o), (2, .ref u), (3, .ref w), (4, .int (iZ (x)))]) C.1 C.2.1 dL_law_1575 hl (by decide) rfl (fun ls hl => ?_)
      refine lv_goto (tgt := 2200) C.1 C.2.1 dL_law_1577 (by decide) ?_
      exact kk _ _ _ _ _ _ _ _ _ _ _ _ G (by omega) (by omega) (lv_sub hl [2, 3, 4, 5, 6] rfl)
    · skip
      refine lv_aload_n C.1 C.2.1 dL_law_1540 rfl (lv_at hl 1 rfl) ?_
      refine lv_aload_n C.1 C.2.1 dL_law_1541 rfl (lv_at hl 0 rfl) ?_
      refine lv_iload C.1 C.2.1 dL_law_1542 (lv_at hl 4 rfl) ?_
      refine z_iconst C dL_law_1544 ?_
      refine z_iadd C dL_law_1545 ?_
      refine zd_ld C Z G q1 (x.toNat + 1) e1 (by omega) (by omega) dL_law_1546 ?_
      refine lv_aload_n C.1 C.2.1 dL_law_1547 rfl (lv_at hl 0 rfl) ?_
      refine lv_iload C.1 C.2.1 dL_law_1548 (lv_at hl 4 rfl) ?_
      refine z_iconst C dL_law_1550 ?_
      refine z_iadd C dL_law_1551 ?_
      refine zd_ld C Z G q2 (x.toNat + 2) e2 (by omega) (by omega) dL_law_1552 ?_
      refine lv_aload_n C.1 C.2.1 dL_law_1553 rfl (lv_at hl 3 rfl) ?_
      refine zd_W (as := [.ref o, .int (iZ (q1)), .int (iZ (q2)), .ref w]) C Z Y G (c_L_at_badr l hlq D cJ o a _ _ _ _ (q1) (q2) (by first | assumption | omega) (by first | assumption | omega) (by first | assumption | omega) (by first | assumption | omega) w _ _) ml_L_260 ⟨Nat.le_of_ble_eq_true rfl, Nat.le_of_ble_eq_true rfl⟩ ⟨by show cells + 0 + 1 ≤ 665281; omega, by show slots + 0 + 6 ≤ 7105636; omega⟩ hl (Nat.le_of_ble_eq_true rfl) rfl dL_law_1554 (fun H locs G => ?_)
      refine lv_istore (lv' := [(5, .int (iZ (2))), (0, .ref t), (1, .ref o), (2, .ref u), (3, .ref w), (4, .int (iZ (x)))]) C.1 C.2.1 dL_law_1557 hl (by decide) rfl (fun ls hl => ?_)
      refine lv_aload_n C.1 C.2.1 dL_law_1559 rfl (lv_at hl 3 rfl) ?_
      refine lv_aload_n C.1 C.2.1 dL_law_1560 rfl (lv_at hl 1 rfl) ?_
      refine lv_iload C.1 C.2.1 dL_law_1561 (lv_at hl 5 rfl) ?_
      refine z_iconst C dL_law_1563 ?_
      refine z_iadd C dL_law_1564 ?_
      refine zd_ld C Z G q1 (x.toNat + 1) e1 (by omega) (by omega) dL_law_1565 ?_
      refine lv_aload_n C.1 C.2.1 dL_law_1566 rfl (lv_at hl 1 rfl) ?_
      refine lv_iload C.1 C.2.1 dL_law_1567 (lv_at hl 5 rfl) ?_
      refine z_iconst C dL_law_1569 ?_
      refine z_iadd C dL_law_1570 ?_
      refine zd_ld C Z G q2 (x.toNat + 2) e2 (by omega) (by omega) dL_law_1571 ?_
      refine zd_M (as := [.int (iZ (q1)), .int (iZ (q2))]) C Y G (c_X5_at_bad2 l D cJ u v _ _ _ _ _ (q1) (q2) (by first | assumption | omega) (by first | assumption | omega) (by first | assumption | omega) (by first | assumption | omega)) ml_L_262 rfl ⟨Nat.le_of_ble_eq_true rfl, Nat.le_of_ble_eq_true rfl⟩ ⟨by show cells + 1 + 0 ≤ 665281; omega, by show slots + 6 + 0 ≤ 7105636; omega⟩ hl (Nat.le_of_ble_eq_true rfl) rfl dL_law_1572 (fun y9 H locs hy9 G => ?_)
      subst hy9
      refine lv_istore (lv' := [(6, _), (5, .int (iZ (2))), (0, .ref t), (1, .ref o), (2, .ref u), (3, .ref w), (4, .int (iZ (x)))]) C.1 C.2.1 dL_law_1575 hl (by decide) rfl (fun ls hl => ?_)
      refine lv_goto (tgt := 2200) C.1 C.2.1 dL_law_1577 (by decide) ?_
      exact kk _ _ _ _ _ _ _ _ _ _ _ _ G (by omega) (by omega) (lv_sub hl [2, 3, 4, 5, 6] rfl)
  · skip
    refine lv_aload_n C.1 C.2.1 dL_law_1540 rfl (lv_at hl 1 rfl) ?_
    refine lv_aload_n C.1 C.2.1 dL_law_1541 rfl (lv_at hl 0 rfl) ?_
    refine lv_iload C.1 C.2.1 dL_law_1542 (lv_at hl 4 rfl) ?_
    refine z_iconst C dL_law_1544 ?_
    refine z_iadd C dL_law_1545 ?_
    refine zd_ld C Z G q1 (x.toNat + 1) e1 (by omega) (by omega) dL_law_1546 ?_
    refine lv_aload_n C.1 C.2.1 dL_law_1547 rfl (lv_at hl 0 rfl) ?_
    refine lv_iload C.1 C.2.1 dL_law_1548 (lv_at hl 4 rfl) ?_
    refine z_iconst C dL_law_1550 ?_
    refine z_iadd C dL_law_1551 ?_
    refine zd_ld C Z G q2 (x.toNat + 2) e2 (by omega) (by omega) dL_law_1552 ?_
    refine lv_aload_n C.1 C.2.1 dL_law_1553 rfl (lv_at hl 3 rfl) ?_
    refine zd_W (as := [.ref o, .int (iZ (q1)), .int (iZ (q2)), .ref w]) C Z Y G (c_L_at_badc l hlq D cJ o a _ _ _ _ (q1) (q2) (by first | assumption | omega) (by first | assumption | omega) (by first | assumption | omega) w _ _) ml_L_260 ⟨Nat.le_of_ble_eq_true rfl, Nat.le_of_ble_eq_true rfl⟩ ⟨by show cells + 0 + 1 ≤ 665281; omega, by show slots + 0 + 6 ≤ 7105636; omega⟩ hl (Nat.le_of_ble_eq_true rfl) rfl dL_law_1554 (fun H locs G => ?_)
    refine lv_istore (lv' := [(5, .int (iZ (1))), (0, .ref t), (1, .ref o), (2, .ref u), (3, .ref w), (4, .int (iZ (x)))]) C.1 C.2.1 dL_law_1557 hl (by decide) rfl (fun ls hl => ?_)
    refine lv_aload_n C.1 C.2.1 dL_law_1559 rfl (lv_at hl 3 rfl) ?_
    refine lv_aload_n C.1 C.2.1 dL_law_1560 rfl (lv_at hl 1 rfl) ?_
    refine lv_iload C.1 C.2.1 dL_law_1561 (lv_at hl 5 rfl) ?_
    refine z_iconst C dL_law_1563 ?_
    refine z_iadd C dL_law_1564 ?_
    refine zd_ld C Z G q1 (x.toNat + 1) e1 (by omega) (by omega) dL_law_1565 ?_
    refine lv_aload_n C.1 C.2.1 dL_law_1566 rfl (lv_at hl 1 rfl) ?_
    refine lv_iload C.1 C.2.1 dL_law_1567 (lv_at hl 5 rfl) ?_
    refine z_iconst C dL_law_1569 ?_
    refine z_iadd C dL_law_1570 ?_
    refine zd_ld C Z G q2 (x.toNat + 2) e2 (by omega) (by omega) dL_law_1571 ?_
    refine zd_M (as := [.int (iZ (q1)), .int (iZ (q2))]) C Y G (c_X5_at_bad1 l D cJ u v _ _ _ _ _ (q1) (q2) (by first | assumption | omega) (by first | assumption | omega) (by first | assumption | omega)) ml_L_262 rfl ⟨Nat.le_of_ble_eq_true rfl, Nat.le_of_ble_eq_true rfl⟩ ⟨by show cells + 1 + 0 ≤ 665281; omega, by show slots + 6 + 0 ≤ 7105636; omega⟩ hl (Nat.le_of_ble_eq_true rfl) rfl dL_law_1572 (fun y9 H locs hy9 G => ?_)
    subst hy9
    refine lv_istore (lv' := [(6, _), (5, .int (iZ (1))), (0, .ref t), (1, .ref o), (2, .ref u), (3, .ref w), (4, .int (iZ (x)))]) C.1 C.2.1 dL_law_1575 hl (by decide) rfl (fun ls hl => ?_)
    refine lv_goto (tgt := 2200) C.1 C.2.1 dL_law_1577 (by decide) ?_
    exact kk _ _ _ _ _ _ _ _ _ _ _ _ G (by omega) (by omega) (lv_sub hl [2, 3, 4, 5, 6] rfl)
set_option maxHeartbeats 4000000 in
set_option maxRecDepth 100000 in
theorem lk_28 (hlq : l.stackTraces = false) (C : CallFix p m c0 cL_law 7 s args T0 RL) (Z : zLw D cB t N g s) (Y : zAd o a u v w s) {c : Nat → Nat} {ac re kn : Int32} {th : Int} {n : Int64} {sv : Value} {H : Heap} {locs : List Loc} {ls : Array Slot} {cells slots : Nat} (G : zG D cJ o a u v w c [.int ac, .int re, .int kn] c [.int (iZ th), .int ac, .int re, .int kn] n sv s H locs) (x : Int) (hx : 0 ≤ x ∧ x + 5 ≤ (N : Int)) (hf : cells + 150 ≤ 665281 ∧ slots + 75000 ≤ 7105636) (hl : lv_has ls 7 [(0, .ref t), (1, .ref o), (2, .ref u), (3, .ref w), (4, .int (iZ (x)))])
    (kk : zNx p l e s m args below meth c0 D cJ t o a u v w x cells slots Qw 2200) : W p l e room_1 s m args below meth c0 H locs cells slots Qw (F0 m 1580 ls []) := by
  have hc := G.1.2.2.2
  obtain ⟨q1, e1⟩ : ∃ z, g (x.toNat + 1) = z := ⟨_, rfl⟩
  have r1 : -2147483648 ≤ q1 ∧ q1 ≤ 2147483647 := e1 ▸ Z.2.2.2.2.2.1 _
  by_cases hcel : (0 ≤ q1 ∧ q1 ≤ 5)
  · skip
    refine lv_aload_n C.1 C.2.1 dL_law_1580 rfl (lv_at hl 1 rfl) ?_
    refine lv_aload_n C.1 C.2.1 dL_law_1581 rfl (lv_at hl 0 rfl) ?_
    refine lv_iload C.1 C.2.1 dL_law_1582 (lv_at hl 4 rfl) ?_
    refine z_iconst C dL_law_1584 ?_
    refine z_iadd C dL_law_1585 ?_
    refine zd_ld C Z G q1 (x.toNat + 1) e1 (by omega) (by omega) dL_law_1586 ?_
    refine lv_aload_n C.1 C.2.1 dL_law_1587 rfl (lv_at hl 3 rfl) ?_
    refine zd_W (as := [.ref o, .int (iZ (q1)), .ref w]) C Z Y G (c_L_digits l D cJ o a _ _ _ _ (q1) (by first | assumption | omega) w _ _) ml_L_263 ⟨Nat.le_of_ble_eq_true rfl, Nat.le_of_ble_eq_true rfl⟩ ⟨by show cells + 0 + 0 ≤ 665281; omega, by show slots + 0 + 0 ≤ 7105636; omega⟩ hl (Nat.le_of_ble_eq_true rfl) rfl dL_law_1588 (fun H locs G => ?_)
    refine lv_istore (lv' := [(5, .int (iZ (0))), (0, .ref t), (1, .ref o), (2, .ref u), (3, .ref w), (4, .int (iZ (x)))]) C.1 C.2.1 dL_law_1591 hl (by decide) rfl (fun ls hl => ?_)
    refine lv_aload_n C.1 C.2.1 dL_law_1593 rfl (lv_at hl 3 rfl) ?_
    refine lv_aload_n C.1 C.2.1 dL_law_1594 rfl (lv_at hl 1 rfl) ?_
    refine lv_iload C.1 C.2.1 dL_law_1595 (lv_at hl 5 rfl) ?_
    refine z_iconst C dL_law_1597 ?_
    refine z_iadd C dL_law_1598 ?_
    refine zd_ld C Z G q1 (x.toNat + 1) e1 (by omega) (by omega) dL_law_1599 ?_
    refine zd_M (as := [.int (iZ (q1))]) C Y G (c_X5_digits l D cJ u v _ _ _ _ _ (q1) (by first | assumption | omega)) ml_L_265 rfl ⟨Nat.le_of_ble_eq_true rfl, Nat.le_of_ble_eq_true rfl⟩ ⟨by show cells + 0 + 0 ≤ 665281; omega, by show slots + 0 + 0 ≤ 7105636; omega⟩ hl (Nat.le_of_ble_eq_true rfl) rfl dL_law_1600 (fun y9 H locs hy9 G => ?_)
    subst hy9
    refine lv_istore (lv' := [(6, _), (5, .int (iZ (0))), (0, .ref t), (1, .ref o), (2, .ref u), (3, .ref w), (4, .int (iZ (x)))]) C.1 C.2.1 dL_law_1603 hl (by decide) rfl (fun ls hl => ?_)
    refine lv_goto (tgt := 2200) C.1 C.2.1 dL_law_1605 (by decide) ?_
    exact kk _ _ _ _ _ _ _ _ _ _ _ _ G (by omega) (by omega) (lv_sub hl [2, 3, 4, 5, 6] rfl)
  · skip
    refine lv_aload_n C.1 C.2.1 dL_law_1580 rfl (lv_at hl 1 rfl) ?_
    refine lv_aload_n C.1 C.2.1 dL_law_1581 rfl (lv_at hl 0 rfl) ?_
    refine lv_iload C.1 C.2.1 dL_law_1582 (lv_at hl 4 rfl) ?_
    refine z_iconst C dL_law_1584 ?_
    refine z_iadd C dL_law_1585 ?_
    refine zd_ld C Z G q1 (x.toNat + 1) e1 (by omega) (by omega) dL_law_1586 ?_
    refine lv_aload_n C.1 C.2.1 dL_law_1587 rfl (lv_at hl 3 rfl) ?_
    refine zd_W (as := [.ref o, .int (iZ (q1)), .ref w]) C Z Y G (c_L_digits_badc l hlq D cJ o a _ _ _ _ (q1) (by first | assumption | omega) (by first | assumption | omega) w _ _) ml_L_263 ⟨Nat.le_of_ble_eq_true rfl, Nat.le_of_ble_eq_true rfl⟩ ⟨by show cells + 0 + 1 ≤ 665281; omega, by show slots + 0 + 6 ≤ 7105636; omega⟩ hl (Nat.le_of_ble_eq_true rfl) rfl dL_law_1588 (fun H locs G => ?_)
    refine lv_istore (lv' := [(5, .int (iZ (1))), (0, .ref t), (1, .ref o), (2, .ref u), (3, .ref w), (4, .int (iZ (x)))]) C.1 C.2.1 dL_law_1591 hl (by decide) rfl (fun ls hl => ?_)
    refine lv_aload_n C.1 C.2.1 dL_law_1593 rfl (lv_at hl 3 rfl) ?_
    refine lv_aload_n C.1 C.2.1 dL_law_1594 rfl (lv_at hl 1 rfl) ?_
    refine lv_iload C.1 C.2.1 dL_law_1595 (lv_at hl 5 rfl) ?_
    refine z_iconst C dL_law_1597 ?_
    refine z_iadd C dL_law_1598 ?_
    refine zd_ld C Z G q1 (x.toNat + 1) e1 (by omega) (by omega) dL_law_1599 ?_
    refine zd_M (as := [.int (iZ (q1))]) C Y G (c_X5_digits_bad1 l D cJ u v _ _ _ _ _ (q1) (by first | assumption | omega) (by first | assumption | omega)) ml_L_265 rfl ⟨Nat.le_of_ble_eq_true rfl, Nat.le_of_ble_eq_true rfl⟩ ⟨by show cells + 1 + 0 ≤ 665281; omega, by show slots + 6 + 0 ≤ 7105636; omega⟩ hl (Nat.le_of_ble_eq_true rfl) rfl dL_law_1600 (fun y9 H locs hy9 G => ?_)
    subst hy9
    refine lv_istore (lv' := [(6, _), (5, .int (iZ (1))), (0, .ref t), (1, .ref o), (2, .ref u), (3, .ref w), (4, .int (iZ (x)))]) C.1 C.2.1 dL_law_1603 hl (by decide) rfl (fun ls hl => ?_)
    refine lv_goto (tgt := 2200) C.1 C.2.1 dL_law_1605 (by decide) ?_
    exact kk _ _ _ _ _ _ _ _ _ _ _ _ G (by omega) (by omega) (lv_sub hl [2, 3, 4, 5, 6] rfl)
set_option maxHeartbeats 4000000 in
set_option maxRecDepth 100000 in
theorem lk_29 (hlq : l.stackTraces = false) (C : CallFix p m c0 cL_law 7 s args T0 RL) (Z : zLw D cB t N g s) (Y : zAd o a u v w s) {c : Nat → Nat} {ac re kn : Int32} {th : Int} {n : Int64} {sv : Value} {H : Heap} {locs : List Loc} {ls : Array Slot} {cells slots : Nat} (G : zG D cJ o a u v w c [.int ac, .int re, .int kn] c [.int (iZ th), .int ac, .int re, .int kn] n sv s H locs) (x : Int) (hx : 0 ≤ x ∧ x + 5 ≤ (N : Int)) (hf : cells + 150 ≤ 665281 ∧ slots + 75000 ≤ 7105636) (hl : lv_has ls 7 [(0, .ref t), (1, .ref o), (2, .ref u), (3, .ref w), (4, .int (iZ (x)))])
    (kk : zNx p l e s m args below meth c0 D cJ t o a u v w x cells slots Qw 2200) : W p l e room_1 s m args below meth c0 H locs cells slots Qw (F0 m 1608 ls []) := by
  have hc := G.1.2.2.2
  obtain ⟨q1, e1⟩ : ∃ z, g (x.toNat + 1) = z := ⟨_, rfl⟩
  have r1 : -2147483648 ≤ q1 ∧ q1 ≤ 2147483647 := e1 ▸ Z.2.2.2.2.2.1 _
  by_cases hcel : (0 ≤ q1 ∧ q1 ≤ 5)
  · skip
    refine lv_aload_n C.1 C.2.1 dL_law_1608 rfl (lv_at hl 1 rfl) ?_
    refine lv_aload_n C.1 C.2.1 dL_law_1609 rfl (lv_at hl 0 rfl) ?_
    refine lv_iload C.1 C.2.1 dL_law_1610 (lv_at hl 4 rfl) ?_
    refine z_iconst C dL_law_1612 ?_
    refine z_iadd C dL_law_1613 ?_
    refine zd_ld C Z G q1 (x.toNat + 1) e1 (by omega) (by omega) dL_law_1614 ?_
    refine lv_aload_n C.1 C.2.1 dL_law_1615 rfl (lv_at hl 3 rfl) ?_
    refine zd_WV (as := [.ref o, .int (iZ (q1)), .ref w]) C Z Y G (c_L_text l D cB cJ o a _ _ _ _ (q1) (by first | assumption | omega) w _ _) ml_L_266 ⟨Nat.le_of_ble_eq_true rfl, Nat.le_of_ble_eq_true rfl⟩ ⟨by show cells + 0 + 72 ≤ 665281; omega, by show slots + 0 + 34864 ≤ 7105636; omega⟩ hl (Nat.le_of_ble_eq_true rfl) rfl dL_law_1616 (fun sv H locs G => ?_)
    refine lv_istore (lv' := [(5, .int (iZ (0))), (0, .ref t), (1, .ref o), (2, .ref u), (3, .ref w), (4, .int (iZ (x)))]) C.1 C.2.1 dL_law_1619 hl (by decide) rfl (fun ls hl => ?_)
    refine lv_aload_n C.1 C.2.1 dL_law_1621 rfl (lv_at hl 3 rfl) ?_
    refine lv_aload_n C.1 C.2.1 dL_law_1622 rfl (lv_at hl 1 rfl) ?_
    refine lv_iload C.1 C.2.1 dL_law_1623 (lv_at hl 5 rfl) ?_
    refine z_iconst C dL_law_1625 ?_
    refine z_iadd C dL_law_1626 ?_
    refine zd_ld C Z G q1 (x.toNat + 1) e1 (by omega) (by omega) dL_law_1627 ?_
    refine zd_MV (as := [.int (iZ (q1))]) C Z Y G (c_X5_text l D cB cJ u v _ _ _ _ _ (q1) (by first | assumption | omega)) ml_L_268 rfl ⟨Nat.le_of_ble_eq_true rfl, Nat.le_of_ble_eq_true rfl⟩ ⟨by show cells + 72 + 72 ≤ 665281; omega, by show slots + 34864 + 34864 ≤ 7105636; omega⟩ hl (Nat.le_of_ble_eq_true rfl) rfl dL_law_1628 (fun y9 H locs hy9 G => ?_)
    obtain ⟨q9, rfl⟩ := hy9
    refine lv_astore (lv' := [(6, .ref q9), (5, .int (iZ (0))), (0, .ref t), (1, .ref o), (2, .ref u), (3, .ref w), (4, .int (iZ (x)))]) C.1 C.2.1 dL_law_1631 hl (by decide) rfl (fun ls hl => ?_)
    refine lv_goto (tgt := 2200) C.1 C.2.1 dL_law_1633 (by decide) ?_
    exact kk _ _ _ _ _ _ _ _ _ _ _ _ G (by omega) (by omega) (lv_sub hl [2, 3, 4, 5, 6] rfl)
  · skip
    refine lv_aload_n C.1 C.2.1 dL_law_1608 rfl (lv_at hl 1 rfl) ?_
    refine lv_aload_n C.1 C.2.1 dL_law_1609 rfl (lv_at hl 0 rfl) ?_
    refine lv_iload C.1 C.2.1 dL_law_1610 (lv_at hl 4 rfl) ?_
    refine z_iconst C dL_law_1612 ?_
    refine z_iadd C dL_law_1613 ?_
    refine zd_ld C Z G q1 (x.toNat + 1) e1 (by omega) (by omega) dL_law_1614 ?_
    refine lv_aload_n C.1 C.2.1 dL_law_1615 rfl (lv_at hl 3 rfl) ?_
    refine zd_W (as := [.ref o, .int (iZ (q1)), .ref w]) C Z Y G (c_L_text_badc l hlq D cJ o a _ _ _ _ (q1) (by first | assumption | omega) (by first | assumption | omega) w _ _) ml_L_266 ⟨Nat.le_of_ble_eq_true rfl, Nat.le_of_ble_eq_true rfl⟩ ⟨by show cells + 0 + 1 ≤ 665281; omega, by show slots + 0 + 6 ≤ 7105636; omega⟩ hl (Nat.le_of_ble_eq_true rfl) rfl dL_law_1616 (fun H locs G => ?_)
    refine lv_istore (lv' := [(5, .int (iZ (1))), (0, .ref t), (1, .ref o), (2, .ref u), (3, .ref w), (4, .int (iZ (x)))]) C.1 C.2.1 dL_law_1619 hl (by decide) rfl (fun ls hl => ?_)
    refine lv_aload_n C.1 C.2.1 dL_law_1621 rfl (lv_at hl 3 rfl) ?_
    refine lv_aload_n C.1 C.2.1 dL_law_1622 rfl (lv_at hl 1 rfl) ?_
    refine lv_iload C.1 C.2.1 dL_law_1623 (lv_at hl 5 rfl) ?_
    refine z_iconst C dL_law_1625 ?_
    refine z_iadd C dL_law_1626 ?_
    refine zd_ld C Z G q1 (x.toNat + 1) e1 (by omega) (by omega) dL_law_1627 ?_
    refine zd_MV (as := [.int (iZ (q1))]) C Z Y G (c_X5_text_bad1 l D cB cJ u v _ _ _ _ _ (q1) (by first | assumption | omega) (by first | assumption | omega)) ml_L_268 rfl ⟨Nat.le_of_ble_eq_true rfl, Nat.le_of_ble_eq_true rfl⟩ ⟨by show cells + 1 + 0 ≤ 665281; omega, by show slots + 6 + 0 ≤ 7105636; omega⟩ hl (Nat.le_of_ble_eq_true rfl) rfl dL_law_1628 (fun y9 H locs hy9 G => ?_)
    obtain ⟨q9, rfl⟩ := hy9
    refine lv_astore (lv' := [(6, .ref q9), (5, .int (iZ (1))), (0, .ref t), (1, .ref o), (2, .ref u), (3, .ref w), (4, .int (iZ (x)))]) C.1 C.2.1 dL_law_1631 hl (by decide) rfl (fun ls hl => ?_)
    refine lv_goto (tgt := 2200) C.1 C.2.1 dL_law_1633 (by decide) ?_
    exact kk _ _ _ _ _ _ _ _ _ _ _ _ G (by omega) (by omega) (lv_sub hl [2, 3, 4, 5, 6] rfl)
set_option maxHeartbeats 4000000 in
set_option maxRecDepth 100000 in
theorem lk_30 (hlq : l.stackTraces = false) (C : CallFix p m c0 cL_law 7 s args T0 RL) (Z : zLw D cB t N g s) (Y : zAd o a u v w s) {c : Nat → Nat} {ac re kn : Int32} {th : Int} {n : Int64} {sv : Value} {H : Heap} {locs : List Loc} {ls : Array Slot} {cells slots : Nat} (G : zG D cJ o a u v w c [.int ac, .int re, .int kn] c [.int (iZ th), .int ac, .int re, .int kn] n sv s H locs) (x : Int) (hx : 0 ≤ x ∧ x + 5 ≤ (N : Int)) (hf : cells + 150 ≤ 665281 ∧ slots + 75000 ≤ 7105636) (hl : lv_has ls 7 [(0, .ref t), (1, .ref o), (2, .ref u), (3, .ref w), (4, .int (iZ (x)))])
    (kk : zNx p l e s m args below meth c0 D cJ t o a u v w x cells slots Qw 2200) : W p l e room_1 s m args below meth c0 H locs cells slots Qw (F0 m 1636 ls []) := by
  have hc := G.1.2.2.2
  obtain ⟨q1, e1⟩ : ∃ z, g (x.toNat + 1) = z := ⟨_, rfl⟩
  have r1 : -2147483648 ≤ q1 ∧ q1 ≤ 2147483647 := e1 ▸ Z.2.2.2.2.2.1 _
  obtain ⟨q2, e2⟩ : ∃ z, g (x.toNat + 2) = z := ⟨_, rfl⟩
  have r2 : -2147483648 ≤ q2 ∧ q2 ≤ 2147483647 := e2 ▸ Z.2.2.2.2.2.1 _
  by_cases hcel : (0 ≤ q1 ∧ q1 ≤ 5)
  · skip
    by_cases hrng : (2 ≤ q2 ∧ q2 ≤ 36)
    · skip
      refine lv_aload_n C.1 C.2.1 dL_law_1636 rfl (lv_at hl 1 rfl) ?_
      refine lv_aload_n C.1 C.2.1 dL_law_1637 rfl (lv_at hl 0 rfl) ?_
      refine lv_iload C.1 C.2.1 dL_law_1638 (lv_at hl 4 rfl) ?_
      refine z_iconst C dL_law_1640 ?_
      refine z_iadd C dL_law_1641 ?_
      refine zd_ld C Z G q1 (x.toNat + 1) e1 (by omega) (by omega) dL_law_1642 ?_
      refine lv_aload_n C.1 C.2.1 dL_law_1643 rfl (lv_at hl 0 rfl) ?_
      refine lv_iload C.1 C.2.1 dL_law_1644 (lv_at hl 4 rfl) ?_
      refine z_iconst C dL_law_1646 ?_
      refine z_iadd C dL_law_1647 ?_
      refine zd_ld C Z G q2 (x.toNat + 2) e2 (by omega) (by omega) dL_law_1648 ?_
      refine lv_aload_n C.1 C.2.1 dL_law_1649 rfl (lv_at hl 3 rfl) ?_
      refine zd_WV (as := [.ref o, .int (iZ (q1)), .int (iZ (q2)), .ref w]) C Z Y G (c_L_code l D cB cJ o a _ _ _ _ (q1) (q2) (by first | assumption | omega) (by first | assumption | omega) w _ _) ml_L_269 ⟨Nat.le_of_ble_eq_true rfl, Nat.le_of_ble_eq_true rfl⟩ ⟨by show cells + 0 + 70 ≤ 665281; omega, by show slots + 0 + 33900 ≤ 7105636; omega⟩ hl (Nat.le_of_ble_eq_true rfl) rfl dL_law_1650 (fun sv H locs G => ?_)
      refine lv_istore (lv' := [(5, .int (iZ (0))), (0, .ref t), (1, .ref o), (2, .ref u), (3, .ref w), (4, .int (iZ (x)))]) C.1 C.2.1 dL_law_1653 hl (by decide) rfl (fun ls hl => ?_)
      refine lv_aload_n C.1 C.2.1 dL_law_1655 rfl (lv_at hl 3 rfl) ?_
      refine lv_aload_n C.1 C.2.1 dL_law_1656 rfl (lv_at hl 1 rfl) ?_
      refine lv_iload C.1 C.2.1 dL_law_1657 (lv_at hl 5 rfl) ?_
      refine z_iconst C dL_law_1659 ?_
      refine z_iadd C dL_law_1660 ?_
      refine zd_ld C Z G q1 (x.toNat + 1) e1 (by omega) (by omega) dL_law_1661 ?_
      refine lv_aload_n C.1 C.2.1 dL_law_1662 rfl (lv_at hl 1 rfl) ?_
      refine lv_iload C.1 C.2.1 dL_law_1663 (lv_at hl 5 rfl) ?_
      refine z_iconst C dL_law_1665 ?_
      refine z_iadd C dL_law_1666 ?_
      refine zd_ld C Z G q2 (x.toNat + 2) e2 (by omega) (by omega) dL_law_1667 ?_
      refine zd_MV (as := [.int (iZ (q1)), .int (iZ (q2))]) C Z Y G (c_X5_code l D cB cJ u v _ _ _ _ _ (q1) (q2) (by first | assumption | omega) (by first | assumption | omega)) ml_L_271 rfl ⟨Nat.le_of_ble_eq_true rfl, Nat.le_of_ble_eq_true rfl⟩ ⟨by show cells + 70 + 40 ≤ 665281; omega, by show slots + 33900 + 18500 ≤ 7105636; omega⟩ hl (Nat.le_of_ble_eq_true rfl) rfl dL_law_1668 (fun y9 H locs hy9 G => ?_)
      obtain ⟨q9, rfl⟩ := hy9
      refine lv_astore (lv' := [(6, .ref q9), (5, .int (iZ (0))), (0, .ref t), (1, .ref o), (2, .ref u), (3, .ref w), (4, .int (iZ (x)))]) C.1 C.2.1 dL_law_1671 hl (by decide) rfl (fun ls hl => ?_)
      refine lv_goto (tgt := 2200) C.1 C.2.1 dL_law_1673 (by decide) ?_
      exact kk _ _ _ _ _ _ _ _ _ _ _ _ G (by omega) (by omega) (lv_sub hl [2, 3, 4, 5, 6] rfl)
    · skip
      refine lv_aload_n C.1 C.2.1 dL_law_1636 rfl (lv_at hl 1 rfl) ?_
      refine lv_aload_n C.1 C.2.1 dL_law_1637 rfl (lv_at hl 0 rfl) ?_
      refine lv_iload C.1 C.2.1 dL_law_1638 (lv_at hl 4 rfl) ?_
      refine z_iconst C dL_law_1640 ?_
      refine z_iadd C dL_law_1641 ?_
      refine zd_ld C Z G q1 (x.toNat + 1) e1 (by omega) (by omega) dL_law_1642 ?_
      refine lv_aload_n C.1 C.2.1 dL_law_1643 rfl (lv_at hl 0 rfl) ?_
      refine lv_iload C.1 C.2.1 dL_law_1644 (lv_at hl 4 rfl) ?_
      refine z_iconst C dL_law_1646 ?_
      refine z_iadd C dL_law_1647 ?_
      refine zd_ld C Z G q2 (x.toNat + 2) e2 (by omega) (by omega) dL_law_1648 ?_
      refine lv_aload_n C.1 C.2.1 dL_law_1649 rfl (lv_at hl 3 rfl) ?_
      refine zd_W (as := [.ref o, .int (iZ (q1)), .int (iZ (q2)), .ref w]) C Z Y G (c_L_code_badr l hlq D cJ o a _ _ _ _ (q1) (q2) (by first | assumption | omega) (by first | assumption | omega) (by first | assumption | omega) (by first | assumption | omega) w _ _) ml_L_269 ⟨Nat.le_of_ble_eq_true rfl, Nat.le_of_ble_eq_true rfl⟩ ⟨by show cells + 0 + 1 ≤ 665281; omega, by show slots + 0 + 6 ≤ 7105636; omega⟩ hl (Nat.le_of_ble_eq_true rfl) rfl dL_law_1650 (fun H locs G => ?_)
      refine lv_istore (lv' := [(5, .int (iZ (2))), (0, .ref t), (1, .ref o), (2, .ref u), (3, .ref w), (4, .int (iZ (x)))]) C.1 C.2.1 dL_law_1653 hl (by decide) rfl (fun ls hl => ?_)
      refine lv_aload_n C.1 C.2.1 dL_law_1655 rfl (lv_at hl 3 rfl) ?_
      refine lv_aload_n C.1 C.2.1 dL_law_1656 rfl (lv_at hl 1 rfl) ?_
      refine lv_iload C.1 C.2.1 dL_law_1657 (lv_at hl 5 rfl) ?_
      refine z_iconst C dL_law_1659 ?_
      refine z_iadd C dL_law_1660 ?_
      refine zd_ld C Z G q1 (x.toNat + 1) e1 (by omega) (by omega) dL_law_1661 ?_
      refine lv_aload_n C.1 C.2.1 dL_law_1662 rfl (lv_at hl 1 rfl) ?_
      refine lv_iload C.1 C.2.1 dL_law_1663 (lv_at hl 5 rfl) ?_
      refine z_iconst C dL_law_1665 ?_
      refine z_iadd C dL_law_1666 ?_
      refine zd_ld C Z G q2 (x.toNat + 2) e2 (by omega) (by omega) dL_law_1667 ?_
      refine zd_MV (as := [.int (iZ (q1)), .int (iZ (q2))]) C Z Y G (c_X5_code_bad2 l D cB cJ u v _ _ _ _ _ (q1) (q2) (by first | assumption | omega) (by first | assumption | omega) (by first | assumption | omega) (by first | assumption | omega)) ml_L_271 rfl ⟨Nat.le_of_ble_eq_true rfl, Nat.le_of_ble_eq_true rfl⟩ ⟨by show cells + 1 + 0 ≤ 665281; omega, by show slots + 6 + 0 ≤ 7105636; omega⟩ hl (Nat.le_of_ble_eq_true rfl) rfl dL_law_1668 (fun y9 H locs hy9 G => ?_)
      obtain ⟨q9, rfl⟩ := hy9
      refine lv_astore (lv' := [(6, .ref q9), (5, .int (iZ (2))), (0, .ref t), (1, .ref o), (2, .ref u), (3, .ref w), (4, .int (iZ (x)))]) C.1 C.2.1 dL_law_1671 hl (by decide) rfl (fun ls hl => ?_)
      refine lv_goto (tgt := 2200) C.1 C.2.1 dL_law_1673 (by decide) ?_
      exact kk _ _ _ _ _ _ _ _ _ _ _ _ G (by omega) (by omega) (lv_sub hl [2, 3, 4, 5, 6] rfl)
  · skip
    refine lv_aload_n C.1 C.2.1 dL_law_1636 rfl (lv_at hl 1 rfl) ?_
    refine lv_aload_n C.1 C.2.1 dL_law_1637 rfl (lv_at hl 0 rfl) ?_
    refine lv_iload C.1 C.2.1 dL_law_1638 (lv_at hl 4 rfl) ?_
    refine z_iconst C dL_law_1640 ?_
    refine z_iadd C dL_law_1641 ?_
    refine zd_ld C Z G q1 (x.toNat + 1) e1 (by omega) (by omega) dL_law_1642 ?_
    refine lv_aload_n C.1 C.2.1 dL_law_1643 rfl (lv_at hl 0 rfl) ?_
    refine lv_iload C.1 C.2.1 dL_law_1644 (lv_at hl 4 rfl) ?_
    refine z_iconst C dL_law_1646 ?_
    refine z_iadd C dL_law_1647 ?_
    refine zd_ld C Z G q2 (x.toNat + 2) e2 (by omega) (by omega) dL_law_1648 ?_
    refine lv_aload_n C.1 C.2.1 dL_law_1649 rfl (lv_at hl 3 rfl) ?_
    refine zd_W (as := [.ref o, .int (iZ (q1)), .int (iZ (q2)), .ref w]) C Z Y G (c_L_code_badc l hlq D cJ o a _ _ _ _ (q1) (q2) (by first | assumption | omega) (by first | assumption | omega) (by first | assumption | omega) w _ _) ml_L_269 ⟨Nat.le_of_ble_eq_true rfl, Nat.le_of_ble_eq_true rfl⟩ ⟨by show cells + 0 + 1 ≤ 665281; omega, by show slots + 0 + 6 ≤ 7105636; omega⟩ hl (Nat.le_of_ble_eq_true rfl) rfl dL_law_1650 (fun H locs G => ?_)
    refine lv_istore (lv' := [(5, .int (iZ (1))), (0, .ref t), (1, .ref o), (2, .ref u), (3, .ref w), (4, .int (iZ (x)))]) C.1 C.2.1 dL_law_1653 hl (by decide) rfl (fun ls hl => ?_)
    refine lv_aload_n C.1 C.2.1 dL_law_1655 rfl (lv_at hl 3 rfl) ?_
    refine lv_aload_n C.1 C.2.1 dL_law_1656 rfl (lv_at hl 1 rfl) ?_
    refine lv_iload C.1 C.2.1 dL_law_1657 (lv_at hl 5 rfl) ?_
    refine z_iconst C dL_law_1659 ?_
    refine z_iadd C dL_law_1660 ?_
    refine zd_ld C Z G q1 (x.toNat + 1) e1 (by omega) (by omega) dL_law_1661 ?_
    refine lv_aload_n C.1 C.2.1 dL_law_1662 rfl (lv_at hl 1 rfl) ?_
    refine lv_iload C.1 C.2.1 dL_law_1663 (lv_at hl 5 rfl) ?_
    refine z_iconst C dL_law_1665 ?_
    refine z_iadd C dL_law_1666 ?_
    refine zd_ld C Z G q2 (x.toNat + 2) e2 (by omega) (by omega) dL_law_1667 ?_
    refine zd_MV (as := [.int (iZ (q1)), .int (iZ (q2))]) C Z Y G (c_X5_code_bad1 l D cB cJ u v _ _ _ _ _ (q1) (q2) (by first | assumption | omega) (by first | assumption | omega) (by first | assumption | omega)) ml_L_271 rfl ⟨Nat.le_of_ble_eq_true rfl, Nat.le_of_ble_eq_true rfl⟩ ⟨by show cells + 1 + 0 ≤ 665281; omega, by show slots + 6 + 0 ≤ 7105636; omega⟩ hl (Nat.le_of_ble_eq_true rfl) rfl dL_law_1668 (fun y9 H locs hy9 G => ?_)
    obtain ⟨q9, rfl⟩ := hy9
    refine lv_astore (lv' := [(6, .ref q9), (5, .int (iZ (1))), (0, .ref t), (1, .ref o), (2, .ref u), (3, .ref w), (4, .int (iZ (x)))]) C.1 C.2.1 dL_law_1671 hl (by decide) rfl (fun ls hl => ?_)
    refine lv_goto (tgt := 2200) C.1 C.2.1 dL_law_1673 (by decide) ?_
    exact kk _ _ _ _ _ _ _ _ _ _ _ _ G (by omega) (by omega) (lv_sub hl [2, 3, 4, 5, 6] rfl)
set_option maxHeartbeats 4000000 in
set_option maxRecDepth 100000 in
theorem lk_31 (hlq : l.stackTraces = false) (C : CallFix p m c0 cL_law 7 s args T0 RL) (Z : zLw D cB t N g s) (Y : zAd o a u v w s) {c : Nat → Nat} {ac re kn : Int32} {th : Int} {n : Int64} {sv : Value} {H : Heap} {locs : List Loc} {ls : Array Slot} {cells slots : Nat} (G : zG D cJ o a u v w c [.int ac, .int re, .int kn] c [.int (iZ th), .int ac, .int re, .int kn] n sv s H locs) (x : Int) (hx : 0 ≤ x ∧ x + 5 ≤ (N : Int)) (hf : cells + 150 ≤ 665281 ∧ slots + 75000 ≤ 7105636) (hl : lv_has ls 7 [(0, .ref t), (1, .ref o), (2, .ref u), (3, .ref w), (4, .int (iZ (x)))])
    (kk : zNx p l e s m args below meth c0 D cJ t o a u v w x cells slots Qw 2200) : W p l e room_1 s m args below meth c0 H locs cells slots Qw (F0 m 1676 ls []) := by
  have hc := G.1.2.2.2
  obtain ⟨q1, e1⟩ : ∃ z, g (x.toNat + 1) = z := ⟨_, rfl⟩
  have r1 : -2147483648 ≤ q1 ∧ q1 ≤ 2147483647 := e1 ▸ Z.2.2.2.2.2.1 _
  obtain ⟨q2, e2⟩ : ∃ z, g (x.toNat + 2) = z := ⟨_, rfl⟩
  have r2 : -2147483648 ≤ q2 ∧ q2 ≤ 2147483647 := e2 ▸ Z.2.2.2.2.2.1 _
  by_cases hcel : (0 ≤ q1 ∧ q1 ≤ 5) ∧ (0 ≤ q2 ∧ q2 ≤ 5)
  · skip
    refine lv_aload_n C.1 C.2.1 dL_law_1676 rfl (lv_at hl 1 rfl) ?_
    refine lv_aload_n C.1 C.2.1 dL_law_1677 rfl (lv_at hl 0 rfl) ?_
    refine lv_iload C.1 C.2.1 dL_law_1678 (lv_at hl 4 rfl) ?_
    refine z_iconst C dL_law_1680 ?_
    refine z_iadd C dL_law_1681 ?_
    refine zd_ld C Z G q1 (x.toNat + 1) e1 (by omega) (by omega) dL_law_1682 ?_
    refine lv_aload_n C.1 C.2.1 dL_law_1683 rfl (lv_at hl 0 rfl) ?_
    refine lv_iload C.1 C.2.1 dL_law_1684 (lv_at hl 4 rfl) ?_
    refine z_iconst C dL_law_1686 ?_
    refine z_iadd C dL_law_1687 ?_
    refine zd_ld C Z G q2 (x.toNat + 2) e2 (by omega) (by omega) dL_law_1688 ?_
    refine lv_aload_n C.1 C.2.1 dL_law_1689 rfl (lv_at hl 3 rfl) ?_
    refine zd_W (as := [.ref o, .int (iZ (q1)), .int (iZ (q2)), .ref w]) C Z Y G (c_L_order l D cJ o a _ _ _ _ (q1) (q2) (by first | assumption | omega) (by first | assumption | omega) w _ _) ml_L_272 ⟨Nat.le_of_ble_eq_true rfl, Nat.le_of_ble_eq_true rfl⟩ ⟨by show cells + 0 + 0 ≤ 665281; omega, by show slots + 0 + 0 ≤ 7105636; omega⟩ hl (Nat.le_of_ble_eq_true rfl) rfl dL_law_1690 (fun H locs G => ?_)
    refine lv_istore (lv' := [(5, .int (iZ (0))), (0, .ref t), (1, .ref o), (2, .ref u), (3, .ref w), (4, .int (iZ (x)))]) C.1 C.2.1 dL_law_1693 hl (by decide) rfl (fun ls hl => ?_)
    refine lv_aload_n C.1 C.2.1 dL_law_1695 rfl (lv_at hl 3 rfl) ?_
    refine lv_aload_n C.1 C.2.1 dL_law_1696 rfl (lv_at hl 1 rfl) ?_
    refine lv_iload C.1 C.2.1 dL_law_1697 (lv_at hl 5 rfl) ?_
    refine z_iconst C dL_law_1699 ?_
    refine z_iadd C dL_law_1700 ?_
    refine zd_ld C Z G q1 (x.toNat + 1) e1 (by omega) (by omega) dL_law_1701 ?_
    refine lv_aload_n C.1 C.2.1 dL_law_1702 rfl (lv_at hl 1 rfl) ?_
    refine lv_iload C.1 C.2.1 dL_law_1703 (lv_at hl 5 rfl) ?_
    refine z_iconst C dL_law_1705 ?_
    refine z_iadd C dL_law_1706 ?_
    refine zd_ld C Z G q2 (x.toNat + 2) e2 (by omega) (by omega) dL_law_1707 ?_
    refine zd_M (as := [.int (iZ (q1)), .int (iZ (q2))]) C Y G (c_X5_order l D cJ u v _ _ _ _ _ (q1) (q2) (by first | assumption | omega) (by first | assumption | omega)) ml_L_274 rfl ⟨Nat.le_of_ble_eq_true rfl, Nat.le_of_ble_eq_true rfl⟩ ⟨by show cells + 0 + 0 ≤ 665281; omega, by show slots + 0 + 0 ≤ 7105636; omega⟩ hl (Nat.le_of_ble_eq_true rfl) rfl dL_law_1708 (fun y9 H locs hy9 G => ?_)
    subst hy9
    refine lv_istore (lv' := [(6, _), (5, .int (iZ (0))), (0, .ref t), (1, .ref o), (2, .ref u), (3, .ref w), (4, .int (iZ (x)))]) C.1 C.2.1 dL_law_1711 hl (by decide) rfl (fun ls hl => ?_)
    refine lv_goto (tgt := 2200) C.1 C.2.1 dL_law_1713 (by decide) ?_
    exact kk _ _ _ _ _ _ _ _ _ _ _ _ G (by omega) (by omega) (lv_sub hl [2, 3, 4, 5, 6] rfl)
  · skip
    refine lv_aload_n C.1 C.2.1 dL_law_1676 rfl (lv_at hl 1 rfl) ?_
    refine lv_aload_n C.1 C.2.1 dL_law_1677 rfl (lv_at hl 0 rfl) ?_
    refine lv_iload C.1 C.2.1 dL_law_1678 (lv_at hl 4 rfl) ?_
    refine z_iconst C dL_law_1680 ?_
    refine z_iadd C dL_law_1681 ?_
    refine zd_ld C Z G q1 (x.toNat + 1) e1 (by omega) (by omega) dL_law_1682 ?_
    refine lv_aload_n C.1 C.2.1 dL_law_1683 rfl (lv_at hl 0 rfl) ?_
    refine lv_iload C.1 C.2.1 dL_law_1684 (lv_at hl 4 rfl) ?_
    refine z_iconst C dL_law_1686 ?_
    refine z_iadd C dL_law_1687 ?_
    refine zd_ld C Z G q2 (x.toNat + 2) e2 (by omega) (by omega) dL_law_1688 ?_
    refine lv_aload_n C.1 C.2.1 dL_law_1689 rfl (lv_at hl 3 rfl) ?_
    refine zd_W (as := [.ref o, .int (iZ (q1)), .int (iZ (q2)), .ref w]) C Z Y G (c_L_order_badc l hlq D cJ o a _ _ _ _ (q1) (q2) (by first | assumption | omega) (by first | assumption | omega) (by first | assumption | omega) w _ _) ml_L_272 ⟨Nat.le_of_ble_eq_true rfl, Nat.le_of_ble_eq_true rfl⟩ ⟨by show cells + 0 + 1 ≤ 665281; omega, by show slots + 0 + 6 ≤ 7105636; omega⟩ hl (Nat.le_of_ble_eq_true rfl) rfl dL_law_1690 (fun H locs G => ?_)
    refine lv_istore (lv' := [(5, .int (iZ (1))), (0, .ref t), (1, .ref o), (2, .ref u), (3, .ref w), (4, .int (iZ (x)))]) C.1 C.2.1 dL_law_1693 hl (by decide) rfl (fun ls hl => ?_)
    refine lv_aload_n C.1 C.2.1 dL_law_1695 rfl (lv_at hl 3 rfl) ?_
    refine lv_aload_n C.1 C.2.1 dL_law_1696 rfl (lv_at hl 1 rfl) ?_
    refine lv_iload C.1 C.2.1 dL_law_1697 (lv_at hl 5 rfl) ?_
    refine z_iconst C dL_law_1699 ?_
    refine z_iadd C dL_law_1700 ?_
    refine zd_ld C Z G q1 (x.toNat + 1) e1 (by omega) (by omega) dL_law_1701 ?_
    refine lv_aload_n C.1 C.2.1 dL_law_1702 rfl (lv_at hl 1 rfl) ?_
    refine lv_iload C.1 C.2.1 dL_law_1703 (lv_at hl 5 rfl) ?_
    refine z_iconst C dL_law_1705 ?_
    refine z_iadd C dL_law_1706 ?_
    refine zd_ld C Z G q2 (x.toNat + 2) e2 (by omega) (by omega) dL_law_1707 ?_
    refine zd_M (as := [.int (iZ (q1)), .int (iZ (q2))]) C Y G (c_X5_order_bad1 l D cJ u v _ _ _ _ _ (q1) (q2) (by first | assumption | omega) (by first | assumption | omega) (by first | assumption | omega)) ml_L_274 rfl ⟨Nat.le_of_ble_eq_true rfl, Nat.le_of_ble_eq_true rfl⟩ ⟨by show cells + 1 + 0 ≤ 665281; omega, by show slots + 6 + 0 ≤ 7105636; omega⟩ hl (Nat.le_of_ble_eq_true rfl) rfl dL_law_1708 (fun y9 H locs hy9 G => ?_)
    subst hy9
    refine lv_istore (lv' := [(6, _), (5, .int (iZ (1))), (0, .ref t), (1, .ref o), (2, .ref u), (3, .ref w), (4, .int (iZ (x)))]) C.1 C.2.1 dL_law_1711 hl (by decide) rfl (fun ls hl => ?_)
    refine lv_goto (tgt := 2200) C.1 C.2.1 dL_law_1713 (by decide) ?_
    exact kk _ _ _ _ _ _ _ _ _ _ _ _ G (by omega) (by omega) (lv_sub hl [2, 3, 4, 5, 6] rfl)
set_option maxHeartbeats 4000000 in
set_option maxRecDepth 100000 in
theorem lk_32 (hlq : l.stackTraces = false) (C : CallFix p m c0 cL_law 7 s args T0 RL) (Z : zLw D cB t N g s) (Y : zAd o a u v w s) {c : Nat → Nat} {ac re kn : Int32} {th : Int} {n : Int64} {sv : Value} {H : Heap} {locs : List Loc} {ls : Array Slot} {cells slots : Nat} (G : zG D cJ o a u v w c [.int ac, .int re, .int kn] c [.int (iZ th), .int ac, .int re, .int kn] n sv s H locs) (x : Int) (hx : 0 ≤ x ∧ x + 5 ≤ (N : Int)) (hf : cells + 150 ≤ 665281 ∧ slots + 75000 ≤ 7105636) (hl : lv_has ls 7 [(0, .ref t), (1, .ref o), (2, .ref u), (3, .ref w), (4, .int (iZ (x)))])
    (kk : zNx p l e s m args below meth c0 D cJ t o a u v w x cells slots Qw 2200) : W p l e room_1 s m args below meth c0 H locs cells slots Qw (F0 m 1716 ls []) := by
  have hc := G.1.2.2.2
  obtain ⟨q1, e1⟩ : ∃ z, g (x.toNat + 1) = z := ⟨_, rfl⟩
  have r1 : -2147483648 ≤ q1 ∧ q1 ≤ 2147483647 := e1 ▸ Z.2.2.2.2.2.1 _
  obtain ⟨q2, e2⟩ : ∃ z, g (x.toNat + 2) = z := ⟨_, rfl⟩
  have r2 : -2147483648 ≤ q2 ∧ q2 ≤ 2147483647 := e2 ▸ Z.2.2.2.2.2.1 _
  by_cases hcel : (0 ≤ q1 ∧ q1 ≤ 5) ∧ (0 ≤ q2 ∧ q2 ≤ 5)
  · skip
    refine lv_aload_n C.1 C.2.1 dL_law_1716 rfl (lv_at hl 1 rfl) ?_
    refine lv_aload_n C.1 C.2.1 dL_law_1717 rfl (lv_at hl 0 rfl) ?_
    refine lv_iload C.1 C.2.1 dL_law_1718 (lv_at hl 4 rfl) ?_
    refine z_iconst C dL_law_1720 ?_
    refine z_iadd C dL_law_1721 ?_
    refine zd_ld C Z G q1 (x.toNat + 1) e1 (by omega) (by omega) dL_law_1722 ?_
    refine lv_aload_n C.1 C.2.1 dL_law_1723 rfl (lv_at hl 0 rfl) ?_
    refine lv_iload C.1 C.2.1 dL_law_1724 (lv_at hl 4 rfl) ?_
    refine z_iconst C dL_law_1726 ?_
    refine z_iadd C dL_law_1727 ?_
    refine zd_ld C Z G q2 (x.toNat + 2) e2 (by omega) (by omega) dL_law_1728 ?_
    refine lv_aload_n C.1 C.2.1 dL_law_1729 rfl (lv_at hl 3 rfl) ?_
    refine zd_W (as := [.ref o, .int (iZ (q1)), .int (iZ (q2)), .ref w]) C Z Y G (c_L_isSame l D cJ o a _ _ _ _ (q1) (q2) (by first | assumption | omega) (by first | assumption | omega) w _ _) ml_L_275 ⟨Nat.le_of_ble_eq_true rfl, Nat.le_of_ble_eq_true rfl⟩ ⟨by show cells + 0 + 0 ≤ 665281; omega, by show slots + 0 + 0 ≤ 7105636; omega⟩ hl (Nat.le_of_ble_eq_true rfl) rfl dL_law_1730 (fun H locs G => ?_)
    refine lv_istore (lv' := [(5, .int (iZ (0))), (0, .ref t), (1, .ref o), (2, .ref u), (3, .ref w), (4, .int (iZ (x)))]) C.1 C.2.1 dL_law_1733 hl (by decide) rfl (fun ls hl => ?_)
    refine lv_aload_n C.1 C.2.1 dL_law_1735 rfl (lv_at hl 3 rfl) ?_
    refine lv_aload_n C.1 C.2.1 dL_law_1736 rfl (lv_at hl 1 rfl) ?_
    refine lv_iload C.1 C.2.1 dL_law_1737 (lv_at hl 5 rfl) ?_
    refine z_iconst C dL_law_1739 ?_
    refine z_iadd C dL_law_1740 ?_
    refine zd_ld C Z G q1 (x.toNat + 1) e1 (by omega) (by omega) dL_law_1741 ?_
    refine lv_aload_n C.1 C.2.1 dL_law_1742 rfl (lv_at hl 1 rfl) ?_
    refine lv_iload C.1 C.2.1 dL_law_1743 (lv_at hl 5 rfl) ?_
    refine z_iconst C dL_law_1745 ?_
    refine z_iadd C dL_law_1746 ?_
    refine zd_ld C Z G q2 (x.toNat + 2) e2 (by omega) (by omega) dL_law_1747 ?_
    refine zd_M (as := [.int (iZ (q1)), .int (iZ (q2))]) C Y G (c_X5_isSame l D cJ u v _ _ _ _ _ (q1) (q2) (by first | assumption | omega) (by first | assumption | omega)) ml_L_277 rfl ⟨Nat.le_of_ble_eq_true rfl, Nat.le_of_ble_eq_true rfl⟩ ⟨by show cells + 0 + 0 ≤ 665281; omega, by show slots + 0 + 0 ≤ 7105636; omega⟩ hl (Nat.le_of_ble_eq_true rfl) rfl dL_law_1748 (fun y9 H locs hy9 G => ?_)
    subst hy9
    refine lv_istore (lv' := [(6, _), (5, .int (iZ (0))), (0, .ref t), (1, .ref o), (2, .ref u), (3, .ref w), (4, .int (iZ (x)))]) C.1 C.2.1 dL_law_1751 hl (by decide) rfl (fun ls hl => ?_)
    refine lv_goto (tgt := 2200) C.1 C.2.1 dL_law_1753 (by decide) ?_
    exact kk _ _ _ _ _ _ _ _ _ _ _ _ G (by omega) (by omega) (lv_sub hl [2, 3, 4, 5, 6] rfl)
  · skip
    refine lv_aload_n C.1 C.2.1 dL_law_1716 rfl (lv_at hl 1 rfl) ?_
    refine lv_aload_n C.1 C.2.1 dL_law_1717 rfl (lv_at hl 0 rfl) ?_
    refine lv_iload C.1 C.2.1 dL_law_1718 (lv_at hl 4 rfl) ?_
    refine z_iconst C dL_law_1720 ?_
    refine z_iadd C dL_law_1721 ?_
    refine zd_ld C Z G q1 (x.toNat + 1) e1 (by omega) (by omega) dL_law_1722 ?_
    refine lv_aload_n C.1 C.2.1 dL_law_1723 rfl (lv_at hl 0 rfl) ?_
    refine lv_iload C.1 C.2.1 dL_law_1724 (lv_at hl 4 rfl) ?_
    refine z_iconst C dL_law_1726 ?_
    refine z_iadd C dL_law_1727 ?_
    refine zd_ld C Z G q2 (x.toNat + 2) e2 (by omega) (by omega) dL_law_1728 ?_
    refine lv_aload_n C.1 C.2.1 dL_law_1729 rfl (lv_at hl 3 rfl) ?_
    refine zd_W (as := [.ref o, .int (iZ (q1)), .int (iZ (q2)), .ref w]) C Z Y G (c_L_isSame_badc l hlq D cJ o a _ _ _ _ (q1) (q2) (by first | assumption | omega) (by first | assumption | omega) (by first | assumption | omega) w _ _) ml_L_275 ⟨Nat.le_of_ble_eq_true rfl, Nat.le_of_ble_eq_true rfl⟩ ⟨by show cells + 0 + 1 ≤ 665281; omega, by show slots + 0 + 6 ≤ 7105636; omega⟩ hl (Nat.le_of_ble_eq_true rfl) rfl dL_law_1730 (fun H locs G => ?_)
    refine lv_istore (lv' := [(5, .int (iZ (1))), (0, .ref t), (1, .ref o), (2, .ref u), (3, .ref w), (4, .int (iZ (x)))]) C.1 C.2.1 dL_law_1733 hl (by decide) rfl (fun ls hl => ?_)
    refine lv_aload_n C.1 C.2.1 dL_law_1735 rfl (lv_at hl 3 rfl) ?_
    refine lv_aload_n C.1 C.2.1 dL_law_1736 rfl (lv_at hl 1 rfl) ?_
    refine lv_iload C.1 C.2.1 dL_law_1737 (lv_at hl 5 rfl) ?_
    refine z_iconst C dL_law_1739 ?_
    refine z_iadd C dL_law_1740 ?_
    refine zd_ld C Z G q1 (x.toNat + 1) e1 (by omega) (by omega) dL_law_1741 ?_
    refine lv_aload_n C.1 C.2.1 dL_law_1742 rfl (lv_at hl 1 rfl) ?_
    refine lv_iload C.1 C.2.1 dL_law_1743 (lv_at hl 5 rfl) ?_
    refine z_iconst C dL_law_1745 ?_
    refine z_iadd C dL_law_1746 ?_
    refine zd_ld C Z G q2 (x.toNat + 2) e2 (by omega) (by omega) dL_law_1747 ?_
    refine zd_M (as := [.int (iZ (q1)), .int (iZ (q2))]) C Y G (c_X5_isSame_bad1 l D cJ u v _ _ _ _ _ (q1) (q2) (by first | assumption | omega) (by first | assumption | omega) (by first | assumption | omega)) ml_L_277 rfl ⟨Nat.le_of_ble_eq_true rfl, Nat.le_of_ble_eq_true rfl⟩ ⟨by show cells + 1 + 0 ≤ 665281; omega, by show slots + 6 + 0 ≤ 7105636; omega⟩ hl (Nat.le_of_ble_eq_true rfl) rfl dL_law_1748 (fun y9 H locs hy9 G => ?_)
    subst hy9
    refine lv_istore (lv' := [(6, _), (5, .int (iZ (1))), (0, .ref t), (1, .ref o), (2, .ref u), (3, .ref w), (4, .int (iZ (x)))]) C.1 C.2.1 dL_law_1751 hl (by decide) rfl (fun ls hl => ?_)
    refine lv_goto (tgt := 2200) C.1 C.2.1 dL_law_1753 (by decide) ?_
    exact kk _ _ _ _ _ _ _ _ _ _ _ _ G (by omega) (by omega) (lv_sub hl [2, 3, 4, 5, 6] rfl)
set_option maxHeartbeats 4000000 in
set_option maxRecDepth 100000 in
theorem lk_33 (hlq : l.stackTraces = false) (C : CallFix p m c0 cL_law 7 s args T0 RL) (Z : zLw D cB t N g s) (Y : zAd o a u v w s) {c : Nat → Nat} {ac re kn : Int32} {th : Int} {n : Int64} {sv : Value} {H : Heap} {locs : List Loc} {ls : Array Slot} {cells slots : Nat} (G : zG D cJ o a u v w c [.int ac, .int re, .int kn] c [.int (iZ th), .int ac, .int re, .int kn] n sv s H locs) (x : Int) (hx : 0 ≤ x ∧ x + 5 ≤ (N : Int)) (hf : cells + 150 ≤ 665281 ∧ slots + 75000 ≤ 7105636) (hl : lv_has ls 7 [(0, .ref t), (1, .ref o), (2, .ref u), (3, .ref w), (4, .int (iZ (x)))])
    (kk : zNx p l e s m args below meth c0 D cJ t o a u v w x cells slots Qw 2200) : W p l e room_1 s m args below meth c0 H locs cells slots Qw (F0 m 1756 ls []) := by
  have hc := G.1.2.2.2
  obtain ⟨q1, e1⟩ : ∃ z, g (x.toNat + 1) = z := ⟨_, rfl⟩
  have r1 : -2147483648 ≤ q1 ∧ q1 ≤ 2147483647 := e1 ▸ Z.2.2.2.2.2.1 _
  obtain ⟨q2, e2⟩ : ∃ z, g (x.toNat + 2) = z := ⟨_, rfl⟩
  have r2 : -2147483648 ≤ q2 ∧ q2 ≤ 2147483647 := e2 ▸ Z.2.2.2.2.2.1 _
  by_cases hcel : (0 ≤ q1 ∧ q1 ≤ 5)
  · skip
    refine lv_aload_n C.1 C.2.1 dL_law_1756 rfl (lv_at hl 1 rfl) ?_
    refine lv_aload_n C.1 C.2.1 dL_law_1757 rfl (lv_at hl 0 rfl) ?_
    refine lv_iload C.1 C.2.1 dL_law_1758 (lv_at hl 4 rfl) ?_
    refine z_iconst C dL_law_1760 ?_
    refine z_iadd C dL_law_1761 ?_
    refine zd_ld C Z G q1 (x.toNat + 1) e1 (by omega) (by omega) dL_law_1762 ?_
    refine lv_aload_n C.1 C.2.1 dL_law_1763 rfl (lv_at hl 0 rfl) ?_
    refine lv_iload C.1 C.2.1 dL_law_1764 (lv_at hl 4 rfl) ?_
    refine z_iconst C dL_law_1766 ?_
    refine z_iadd C dL_law_1767 ?_
    refine zd_ld C Z G q2 (x.toNat + 2) e2 (by omega) (by omega) dL_law_1768 ?_
    refine zd_nz C (by omega) dL_law_1769 dL_law_1772 dL_law_1773 dL_law_1776 ?_
    refine lv_aload_n C.1 C.2.1 dL_law_1777 rfl (lv_at hl 3 rfl) ?_
    refine zd_W (as := [.ref o, .int (iZ (q1)), .int (iZ (zB (decide (q2 ≠ 0)))), .ref w]) C Z Y G (c_L_value l D cJ o a _ _ _ _ (q1) (decide (q2 ≠ 0)) (by first | assumption | omega) w _ _) ml_L_278 ⟨Nat.le_of_ble_eq_true rfl, Nat.le_of_ble_eq_true rfl⟩ ⟨by show cells + 0 + 0 ≤ 665281; omega, by show slots + 0 + 0 ≤ 7105636; omega⟩ hl (Nat.le_of_ble_eq_true rfl) rfl dL_law_1778 (fun H locs G => ?_)
    refine lv_istore (lv' := [(5, .int (iZ (0))), (0, .ref t), (1, .ref o), (2, .ref u), (3, .ref w), (4, .int (iZ (x)))]) C.1 C.2.1 dL_law_1781 hl (by decide) rfl (fun ls hl => ?_)
    refine lv_aload_n C.1 C.2.1 dL_law_1783 rfl (lv_at hl 3 rfl) ?_
    refine lv_aload_n C.1 C.2.1 dL_law_1784 rfl (lv_at hl 1 rfl) ?_
    refine lv_iload C.1 C.2.1 dL_law_1785 (lv_at hl 5 rfl) ?_
    refine z_iconst C dL_law_1787 ?_
    refine z_iadd C dL_law_1788 ?_
    refine zd_ld C Z G q1 (x.toNat + 1) e1 (by omega) (by omega) dL_law_1789 ?_
    refine lv_aload_n C.1 C.2.1 dL_law_1790 rfl (lv_at hl 1 rfl) ?_
    refine lv_iload C.1 C.2.1 dL_law_1791 (lv_at hl 5 rfl) ?_
    refine z_iconst C dL_law_1793 ?_
    refine z_iadd C dL_law_1794 ?_
    refine zd_ld C Z G q2 (x.toNat + 2) e2 (by omega) (by omega) dL_law_1795 ?_
    refine zd_nz C (by omega) dL_law_1796 dL_law_1799 dL_law_1800 dL_law_1803 ?_
    refine zd_M (as := [.int (iZ (q1)), .int (iZ (zB (decide (q2 ≠ 0))))]) C Y G (c_X5_value l D cJ u v _ _ _ _ _ (q1) (decide (q2 ≠ 0)) (by first | assumption | omega)) ml_L_281 rfl ⟨Nat.le_of_ble_eq_true rfl, Nat.le_of_ble_eq_true rfl⟩ ⟨by show cells + 0 + 0 ≤ 665281; omega, by show slots + 0 + 0 ≤ 7105636; omega⟩ hl (Nat.le_of_ble_eq_true rfl) rfl dL_law_1804 (fun y9 H locs hy9 G => ?_)
    subst hy9
    refine lv_istore (lv' := [(6, _), (5, .int (iZ (0))), (0, .ref t), (1, .ref o), (2, .ref u), (3, .ref w), (4, .int (iZ (x)))]) C.1 C.2.1 dL_law_1807 hl (by decide) rfl (fun ls hl => ?_)
    refine lv_goto (tgt := 2200) C.1 C.2.1 dL_law_1809 (by decide) ?_
    exact kk _ _ _ _ _ _ _ _ _ _ _ _ G (by omega) (by omega) (lv_sub hl [2, 3, 4, 5, 6] rfl)
  · skip
    refine lv_aload_n C.1 C.2.1 dL_law_1756 rfl (lv_at hl 1 rfl) ?_
    refine lv_aload_n C.1 C.2.1 dL_law_1757 rfl (lv_at hl 0 rfl) ?_
    refine lv_iload C.1 C.2.1 dL_law_1758 (lv_at hl 4 rfl) ?_
    refine z_iconst C dL_law_1760 ?_
    refine z_iadd C dL_law_1761 ?_
    refine zd_ld C Z G q1 (x.toNat + 1) e1 (by omega) (by omega) dL_law_1762 ?_
    refine lv_aload_n C.1 C.2.1 dL_law_1763 rfl (lv_at hl 0 rfl) ?_
    refine lv_iload C.1 C.2.1 dL_law_1764 (lv_at hl 4 rfl) ?_
    refine z_iconst C dL_law_1766 ?_
    refine z_iadd C dL_law_1767 ?_
    refine zd_ld C Z G q2 (x.toNat + 2) e2 (by omega) (by omega) dL_law_1768 ?_
    refine zd_nz C (by omega) dL_law_1769 dL_law_1772 dL_law_1773 dL_law_1776 ?_
    refine lv_aload_n C.1 C.2.1 dL_law_1777 rfl (lv_at hl 3 rfl) ?_
    refine zd_W (as := [.ref o, .int (iZ (q1)), .int (iZ (zB (decide (q2 ≠ 0)))), .ref w]) C Z Y G (c_L_value_badc l hlq D cJ o a _ _ _ _ (q1) (decide (q2 ≠ 0)) (by first | assumption | omega) (by first | assumption | omega) w _ _) ml_L_278 ⟨Nat.le_of_ble_eq_true rfl, Nat.le_of_ble_eq_true rfl⟩ ⟨by show cells + 0 + 1 ≤ 665281; omega, by show slots + 0 + 6 ≤ 7105636; omega⟩ hl (Nat.le_of_ble_eq_true rfl) rfl dL_law_1778 (fun H locs G => ?_)
    refine lv_istore (lv' := [(5, .int (iZ (1))), (0, .ref t), (1, .ref o), (2, .ref u), (3, .ref w), (4, .int (iZ (x)))]) C.1 C.2.1 dL_law_1781 hl (by decide) rfl (fun ls hl => ?_)
    refine lv_aload_n C.1 C.2.1 dL_law_1783 rfl (lv_at hl 3 rfl) ?_
    refine lv_aload_n C.1 C.2.1 dL_law_1784 rfl (lv_at hl 1 rfl) ?_
    refine lv_iload C.1 C.2.1 dL_law_1785 (lv_at hl 5 rfl) ?_
    refine z_iconst C dL_law_1787 ?_
    refine z_iadd C dL_law_1788 ?_
    refine zd_ld C Z G q1 (x.toNat + 1) e1 (by omega) (by omega) dL_law_1789 ?_
    refine lv_aload_n C.1 C.2.1 dL_law_1790 rfl (lv_at hl 1 rfl) ?_
    refine lv_iload C.1 C.2.1 dL_law_1791 (lv_at hl 5 rfl) ?_
    refine z_iconst C dL_law_1793 ?_
    refine z_iadd C dL_law_1794 ?_
    refine zd_ld C Z G q2 (x.toNat + 2) e2 (by omega) (by omega) dL_law_1795 ?_
    refine zd_nz C (by omega) dL_law_1796 dL_law_1799 dL_law_1800 dL_law_1803 ?_
    refine zd_M (as := [.int (iZ (q1)), .int (iZ (zB (decide (q2 ≠ 0))))]) C Y G (c_X5_value_bad1 l D cJ u v _ _ _ _ _ (q1) (decide (q2 ≠ 0)) (by first | assumption | omega) (by first | assumption | omega)) ml_L_281 rfl ⟨Nat.le_of_ble_eq_true rfl, Nat.le_of_ble_eq_true rfl⟩ ⟨by show cells + 1 + 0 ≤ 665281; omega, by show slots + 6 + 0 ≤ 7105636; omega⟩ hl (Nat.le_of_ble_eq_true rfl) rfl dL_law_1804 (fun y9 H locs hy9 G => ?_)
    subst hy9
    refine lv_istore (lv' := [(6, _), (5, .int (iZ (1))), (0, .ref t), (1, .ref o), (2, .ref u), (3, .ref w), (4, .int (iZ (x)))]) C.1 C.2.1 dL_law_1807 hl (by decide) rfl (fun ls hl => ?_)
    refine lv_goto (tgt := 2200) C.1 C.2.1 dL_law_1809 (by decide) ?_
    exact kk _ _ _ _ _ _ _ _ _ _ _ _ G (by omega) (by omega) (lv_sub hl [2, 3, 4, 5, 6] rfl)
set_option maxHeartbeats 4000000 in
set_option maxRecDepth 100000 in
theorem lk_34 (hlq : l.stackTraces = false) (C : CallFix p m c0 cL_law 7 s args T0 RL) (Z : zLw D cB t N g s) (Y : zAd o a u v w s) {c : Nat → Nat} {ac re kn : Int32} {th : Int} {n : Int64} {sv : Value} {H : Heap} {locs : List Loc} {ls : Array Slot} {cells slots : Nat} (G : zG D cJ o a u v w c [.int ac, .int re, .int kn] c [.int (iZ th), .int ac, .int re, .int kn] n sv s H locs) (x : Int) (hx : 0 ≤ x ∧ x + 5 ≤ (N : Int)) (hf : cells + 150 ≤ 665281 ∧ slots + 75000 ≤ 7105636) (hl : lv_has ls 7 [(0, .ref t), (1, .ref o), (2, .ref u), (3, .ref w), (4, .int (iZ (x)))])
    (kk : zNx p l e s m args below meth c0 D cJ t o a u v w x cells slots Qw 2200) : W p l e room_1 s m args below meth c0 H locs cells slots Qw (F0 m 1812 ls []) := by
  have hc := G.1.2.2.2
  obtain ⟨q1, e1⟩ : ∃ z, g (x.toNat + 1) = z := ⟨_, rfl⟩
  have r1 : -2147483648 ≤ q1 ∧ q1 ≤ 2147483647 := e1 ▸ Z.2.2.2.2.2.1 _
  obtain ⟨q2, e2⟩ : ∃ z, g (x.toNat + 2) = z := ⟨_, rfl⟩
  have r2 : -2147483648 ≤ q2 ∧ q2 ≤ 2147483647 := e2 ▸ Z.2.2.2.2.2.1 _
  by_cases hcel : (0 ≤ q1 ∧ q1 ≤ 5) ∧ (0 ≤ q2 ∧ q2 ≤ 5)
  · skip
    refine lv_aload_n C.1 C.2.1 dL_law_1812 rfl (lv_at hl 1 rfl) ?_
    refine lv_aload_n C.1 C.2.1 dL_law_1813 rfl (lv_at hl 0 rfl) ?_
    refine lv_iload C.1 C.2.1 dL_law_1814 (lv_at hl 4 rfl) ?_
    refine z_iconst C dL_law_1816 ?_
    refine z_iadd C dL_law_1817 ?_
    refine zd_ld C Z G q1 (x.toNat + 1) e1 (by omega) (by omega) dL_law_1818 ?_
    refine lv_aload_n C.1 C.2.1 dL_law_1819 rfl (lv_at hl 0 rfl) ?_
    refine lv_iload C.1 C.2.1 dL_law_1820 (lv_at hl 4 rfl) ?_
    refine z_iconst C dL_law_1822 ?_
    refine z_iadd C dL_law_1823 ?_
    refine zd_ld C Z G q2 (x.toNat + 2) e2 (by omega) (by omega) dL_law_1824 ?_
    refine lv_aload_n C.1 C.2.1 dL_law_1825 rfl (lv_at hl 3 rfl) ?_
    refine zd_W (as := [.ref o, .int (iZ (q1)), .int (iZ (q2)), .ref w]) C Z Y G (c_L_divides l D cJ o a _ _ _ _ (q1) (q2) (by first | assumption | omega) (by first | assumption | omega) w _ _) ml_L_282 ⟨Nat.le_of_ble_eq_true rfl, Nat.le_of_ble_eq_true rfl⟩ ⟨by show cells + 0 + 0 ≤ 665281; omega, by show slots + 0 + 0 ≤ 7105636; omega⟩ hl (Nat.le_of_ble_eq_true rfl) rfl dL_law_1826 (fun H locs G => ?_)
    refine lv_istore (lv' := [(5, .int (iZ (0))), (0, .ref t), (1, .ref o), (2, .ref u), (3, .ref w), (4, .int (iZ (x)))]) C.1 C.2.1 dL_law_1829 hl (by decide) rfl (fun ls hl => ?_)
    refine lv_aload_n C.1 C.2.1 dL_law_1831 rfl (lv_at hl 3 rfl) ?_
    refine lv_aload_n C.1 C.2.1 dL_law_1832 rfl (lv_at hl 1 rfl) ?_
    refine lv_iload C.1 C.2.1 dL_law_1833 (lv_at hl 5 rfl) ?_
    refine z_iconst C dL_law_1835 ?_
    refine z_iadd C dL_law_1836 ?_
    refine zd_ld C Z G q1 (x.toNat + 1) e1 (by omega) (by omega) dL_law_1837 ?_
    refine lv_aload_n C.1 C.2.1 dL_law_1838 rfl (lv_at hl 1 rfl) ?_
    refine lv_iload C.1 C.2.1 dL_law_1839 (lv_at hl 5 rfl) ?_
    refine z_iconst C dL_law_1841 ?_
    refine z_iadd C dL_law_1842 ?_
    refine zd_ld C Z G q2 (x.toNat + 2) e2 (by omega) (by omega) dL_law_1843 ?_
    refine zd_M (as := [.int (iZ (q1)), .int (iZ (q2))]) C Y G (c_X5_divides l D cJ u v _ _ _ _ _ (q1) (q2) (by first | assumption | omega) (by first | assumption | omega)) ml_L_284 rfl ⟨Nat.le_of_ble_eq_true rfl, Nat.le_of_ble_eq_true rfl⟩ ⟨by show cells + 0 + 0 ≤ 665281; omega, by show slots + 0 + 0 ≤ 7105636; omega⟩ hl (Nat.le_of_ble_eq_true rfl) rfl dL_law_1844 (fun y9 H locs hy9 G => ?_)
    subst hy9
    refine lv_istore (lv' := [(6, _), (5, .int (iZ (0))), (0, .ref t), (1, .ref o), (2, .ref u), (3, .ref w), (4, .int (iZ (x)))]) C.1 C.2.1 dL_law_1847 hl (by decide) rfl (fun ls hl => ?_)
    refine lv_goto (tgt := 2200) C.1 C.2.1 dL_law_1849 (by decide) ?_
    exact kk _ _ _ _ _ _ _ _ _ _ _ _ G (by omega) (by omega) (lv_sub hl [2, 3, 4, 5, 6] rfl)
  · skip
    refine lv_aload_n C.1 C.2.1 dL_law_1812 rfl (lv_at hl 1 rfl) ?_
    refine lv_aload_n C.1 C.2.1 dL_law_1813 rfl (lv_at hl 0 rfl) ?_
    refine lv_iload C.1 C.2.1 dL_law_1814 (lv_at hl 4 rfl) ?_
    refine z_iconst C dL_law_1816 ?_
    refine z_iadd C dL_law_1817 ?_
    refine zd_ld C Z G q1 (x.toNat + 1) e1 (by omega) (by omega) dL_law_1818 ?_
    refine lv_aload_n C.1 C.2.1 dL_law_1819 rfl (lv_at hl 0 rfl) ?_
    refine lv_iload C.1 C.2.1 dL_law_1820 (lv_at hl 4 rfl) ?_
    refine z_iconst C dL_law_1822 ?_
    refine z_iadd C dL_law_1823 ?_
    refine zd_ld C Z G q2 (x.toNat + 2) e2 (by omega) (by omega) dL_law_1824 ?_
    refine lv_aload_n C.1 C.2.1 dL_law_1825 rfl (lv_at hl 3 rfl) ?_
    refine zd_W (as := [.ref o, .int (iZ (q1)), .int (iZ (q2)), .ref w]) C Z Y G (c_L_divides_badc l hlq D cJ o a _ _ _ _ (q1) (q2) (by first | assumption | omega) (by first | assumption | omega) (by first | assumption | omega) w _ _) ml_L_282 ⟨Nat.le_of_ble_eq_true rfl, Nat.le_of_ble_eq_true rfl⟩ ⟨by show cells + 0 + 1 ≤ 665281; omega, by show slots + 0 + 6 ≤ 7105636; omega⟩ hl (Nat.le_of_ble_eq_true rfl) rfl dL_law_1826 (fun H locs G => ?_)
    refine lv_istore (lv' := [(5, .int (iZ (1))), (0, .ref t), (1, .ref o), (2, .ref u), (3, .ref w), (4, .int (iZ (x)))]) C.1 C.2.1 dL_law_1829 hl (by decide) rfl (fun ls hl => ?_)
    refine lv_aload_n C.1 C.2.1 dL_law_1831 rfl (lv_at hl 3 rfl) ?_
    refine lv_aload_n C.1 C.2.1 dL_law_1832 rfl (lv_at hl 1 rfl) ?_
    refine lv_iload C.1 C.2.1 dL_law_1833 (lv_at hl 5 rfl) ?_
    refine z_iconst C dL_law_1835 ?_
    refine z_iadd C dL_law_1836 ?_
    refine zd_ld C Z G q1 (x.toNat + 1) e1 (by omega) (by omega) dL_law_1837 ?_
    refine lv_aload_n C.1 C.2.1 dL_law_1838 rfl (lv_at hl 1 rfl) ?_
    refine lv_iload C.1 C.2.1 dL_law_1839 (lv_at hl 5 rfl) ?_
    refine z_iconst C dL_law_1841 ?_
    refine z_iadd C dL_law_1842 ?_
    refine zd_ld C Z G q2 (x.toNat + 2) e2 (by omega) (by omega) dL_law_1843 ?_
    refine zd_M (as := [.int (iZ (q1)), .int (iZ (q2))]) C Y G (c_X5_divides_bad1 l D cJ u v _ _ _ _ _ (q1) (q2) (by first | assumption | omega) (by first | assumption | omega) (by first | assumption | omega)) ml_L_284 rfl ⟨Nat.le_of_ble_eq_true rfl, Nat.le_of_ble_eq_true rfl⟩ ⟨by show cells + 1 + 0 ≤ 665281; omega, by show slots + 6 + 0 ≤ 7105636; omega⟩ hl (Nat.le_of_ble_eq_true rfl) rfl dL_law_1844 (fun y9 H locs hy9 G => ?_)
    subst hy9
    refine lv_istore (lv' := [(6, _), (5, .int (iZ (1))), (0, .ref t), (1, .ref o), (2, .ref u), (3, .ref w), (4, .int (iZ (x)))]) C.1 C.2.1 dL_law_1847 hl (by decide) rfl (fun ls hl => ?_)
    refine lv_goto (tgt := 2200) C.1 C.2.1 dL_law_1849 (by decide) ?_
    exact kk _ _ _ _ _ _ _ _ _ _ _ _ G (by omega) (by omega) (lv_sub hl [2, 3, 4, 5, 6] rfl)
set_option maxHeartbeats 4000000 in
set_option maxRecDepth 100000 in
theorem lk_35 (hlq : l.stackTraces = false) (C : CallFix p m c0 cL_law 7 s args T0 RL) (Z : zLw D cB t N g s) (Y : zAd o a u v w s) {c : Nat → Nat} {ac re kn : Int32} {th : Int} {n : Int64} {sv : Value} {H : Heap} {locs : List Loc} {ls : Array Slot} {cells slots : Nat} (G : zG D cJ o a u v w c [.int ac, .int re, .int kn] c [.int (iZ th), .int ac, .int re, .int kn] n sv s H locs) (x : Int) (hx : 0 ≤ x ∧ x + 5 ≤ (N : Int)) (hf : cells + 150 ≤ 665281 ∧ slots + 75000 ≤ 7105636) (hl : lv_has ls 7 [(0, .ref t), (1, .ref o), (2, .ref u), (3, .ref w), (4, .int (iZ (x)))])
    (kk : zNx p l e s m args below meth c0 D cJ t o a u v w x cells slots Qw 2200) : W p l e room_1 s m args below meth c0 H locs cells slots Qw (F0 m 1852 ls []) := by
  have hc := G.1.2.2.2
  obtain ⟨q1, e1⟩ : ∃ z, g (x.toNat + 1) = z := ⟨_, rfl⟩
  have r1 : -2147483648 ≤ q1 ∧ q1 ≤ 2147483647 := e1 ▸ Z.2.2.2.2.2.1 _
  by_cases hcel : (0 ≤ q1 ∧ q1 ≤ 5)
  · skip
    refine lv_aload_n C.1 C.2.1 dL_law_1852 rfl (lv_at hl 1 rfl) ?_
    refine lv_aload_n C.1 C.2.1 dL_law_1853 rfl (lv_at hl 0 rfl) ?_
    refine lv_iload C.1 C.2.1 dL_law_1854 (lv_at hl 4 rfl) ?_
    refine z_iconst C dL_law_1856 ?_
    refine z_iadd C dL_law_1857 ?_
    refine zd_ld C Z G q1 (x.toNat + 1) e1 (by omega) (by omega) dL_law_1858 ?_
    refine lv_aload_n C.1 C.2.1 dL_law_1859 rfl (lv_at hl 3 rfl) ?_
    refine zd_W (as := [.ref o, .int (iZ (q1)), .ref w]) C Z Y G (c_L_isFree l D cJ o a _ _ _ _ (q1) (by first | assumption | omega) w _ _) ml_L_285 ⟨Nat.le_of_ble_eq_true rfl, Nat.le_of_ble_eq_true rfl⟩ ⟨by show cells + 0 + 0 ≤ 665281; omega, by show slots + 0 + 0 ≤ 7105636; omega⟩ hl (Nat.le_of_ble_eq_true rfl) rfl dL_law_1860 (fun H locs G => ?_)
    refine lv_istore (lv' := [(5, .int (iZ (0))), (0, .ref t), (1, .ref o), (2, .ref u), (3, .ref w), (4, .int (iZ (x)))]) C.1 C.2.1 dL_law_1863 hl (by decide) rfl (fun ls hl => ?_)
    refine lv_aload_n C.1 C.2.1 dL_law_1865 rfl (lv_at hl 3 rfl) ?_
    refine lv_aload_n C.1 C.2.1 dL_law_1866 rfl (lv_at hl 1 rfl) ?_
    refine lv_iload C.1 C.2.1 dL_law_1867 (lv_at hl 5 rfl) ?_
    refine z_iconst C dL_law_1869 ?_
    refine z_iadd C dL_law_1870 ?_
    refine zd_ld C Z G q1 (x.toNat + 1) e1 (by omega) (by omega) dL_law_1871 ?_
    refine zd_M (as := [.int (iZ (q1))]) C Y G (c_X5_isFree l D cJ u v _ _ _ _ _ (q1) (by first | assumption | omega)) ml_L_287 rfl ⟨Nat.le_of_ble_eq_true rfl, Nat.le_of_ble_eq_true rfl⟩ ⟨by show cells + 0 + 0 ≤ 665281; omega, by show slots + 0 + 0 ≤ 7105636; omega⟩ hl (Nat.le_of_ble_eq_true rfl) rfl dL_law_1872 (fun y9 H locs hy9 G => ?_)
    subst hy9
    refine lv_istore (lv' := [(6, _), (5, .int (iZ (0))), (0, .ref t), (1, .ref o), (2, .ref u), (3, .ref w), (4, .int (iZ (x)))]) C.1 C.2.1 dL_law_1875 hl (by decide) rfl (fun ls hl => ?_)
    refine lv_goto (tgt := 2200) C.1 C.2.1 dL_law_1877 (by decide) ?_
    exact kk _ _ _ _ _ _ _ _ _ _ _ _ G (by omega) (by omega) (lv_sub hl [2, 3, 4, 5, 6] rfl)
  · skip
    refine lv_aload_n C.1 C.2.1 dL_law_1852 rfl (lv_at hl 1 rfl) ?_
    refine lv_aload_n C.1 C.2.1 dL_law_1853 rfl (lv_at hl 0 rfl) ?_
    refine lv_iload C.1 C.2.1 dL_law_1854 (lv_at hl 4 rfl) ?_
    refine z_iconst C dL_law_1856 ?_
    refine z_iadd C dL_law_1857 ?_
    refine zd_ld C Z G q1 (x.toNat + 1) e1 (by omega) (by omega) dL_law_1858 ?_
    refine lv_aload_n C.1 C.2.1 dL_law_1859 rfl (lv_at hl 3 rfl) ?_
    refine zd_W (as := [.ref o, .int (iZ (q1)), .ref w]) C Z Y G (c_L_isFree_badc l hlq D cJ o a _ _ _ _ (q1) (by first | assumption | omega) (by first | assumption | omega) w _ _) ml_L_285 ⟨Nat.le_of_ble_eq_true rfl, Nat.le_of_ble_eq_true rfl⟩ ⟨by show cells + 0 + 1 ≤ 665281; omega, by show slots + 0 + 6 ≤ 7105636; omega⟩ hl (Nat.le_of_ble_eq_true rfl) rfl dL_law_1860 (fun H locs G => ?_)
    refine lv_istore (lv' := [(5, .int (iZ (1))), (0, .ref t), (1, .ref o), (2, .ref u), (3, .ref w), (4, .int (iZ (x)))]) C.1 C.2.1 dL_law_1863 hl (by decide) rfl (fun ls hl => ?_)
    refine lv_aload_n C.1 C.2.1 dL_law_1865 rfl (lv_at hl 3 rfl) ?_
    refine lv_aload_n C.1 C.2.1 dL_law_1866 rfl (lv_at hl 1 rfl) ?_
    refine lv_iload C.1 C.2.1 dL_law_1867 (lv_at hl 5 rfl) ?_
    refine z_iconst C dL_law_1869 ?_
    refine z_iadd C dL_law_1870 ?_
    refine zd_ld C Z G q1 (x.toNat + 1) e1 (by omega) (by omega) dL_law_1871 ?_
    refine zd_M (as := [.int (iZ (q1))]) C Y G (c_X5_isFree_bad1 l D cJ u v _ _ _ _ _ (q1) (by first | assumption | omega) (by first | assumption | omega)) ml_L_287 rfl ⟨Nat.le_of_ble_eq_true rfl, Nat.le_of_ble_eq_true rfl⟩ ⟨by show cells + 1 + 0 ≤ 665281; omega, by show slots + 6 + 0 ≤ 7105636; omega⟩ hl (Nat.le_of_ble_eq_true rfl) rfl dL_law_1872 (fun y9 H locs hy9 G => ?_)
    subst hy9
    refine lv_istore (lv' := [(6, _), (5, .int (iZ (1))), (0, .ref t), (1, .ref o), (2, .ref u), (3, .ref w), (4, .int (iZ (x)))]) C.1 C.2.1 dL_law_1875 hl (by decide) rfl (fun ls hl => ?_)
    refine lv_goto (tgt := 2200) C.1 C.2.1 dL_law_1877 (by decide) ?_
    exact kk _ _ _ _ _ _ _ _ _ _ _ _ G (by omega) (by omega) (lv_sub hl [2, 3, 4, 5, 6] rfl)
set_option maxHeartbeats 4000000 in
set_option maxRecDepth 100000 in
theorem lk_36 (hlq : l.stackTraces = false) (C : CallFix p m c0 cL_law 7 s args T0 RL) (Z : zLw D cB t N g s) (Y : zAd o a u v w s) {c : Nat → Nat} {ac re kn : Int32} {th : Int} {n : Int64} {sv : Value} {H : Heap} {locs : List Loc} {ls : Array Slot} {cells slots : Nat} (G : zG D cJ o a u v w c [.int ac, .int re, .int kn] c [.int (iZ th), .int ac, .int re, .int kn] n sv s H locs) (x : Int) (hx : 0 ≤ x ∧ x + 5 ≤ (N : Int)) (hf : cells + 150 ≤ 665281 ∧ slots + 75000 ≤ 7105636) (hl : lv_has ls 7 [(0, .ref t), (1, .ref o), (2, .ref u), (3, .ref w), (4, .int (iZ (x)))])
    (kk : zNx p l e s m args below meth c0 D cJ t o a u v w x cells slots Qw 2200) : W p l e room_1 s m args below meth c0 H locs cells slots Qw (F0 m 1880 ls []) := by
  have hc := G.1.2.2.2
  obtain ⟨q1, e1⟩ : ∃ z, g (x.toNat + 1) = z := ⟨_, rfl⟩
  have r1 : -2147483648 ≤ q1 ∧ q1 ≤ 2147483647 := e1 ▸ Z.2.2.2.2.2.1 _
  by_cases hcel : (0 ≤ q1 ∧ q1 ≤ 5)
  · skip
    refine lv_aload_n C.1 C.2.1 dL_law_1880 rfl (lv_at hl 1 rfl) ?_
    refine lv_aload_n C.1 C.2.1 dL_law_1881 rfl (lv_at hl 0 rfl) ?_
    refine lv_iload C.1 C.2.1 dL_law_1882 (lv_at hl 4 rfl) ?_
    refine z_iconst C dL_law_1884 ?_
    refine z_iadd C dL_law_1885 ?_
    refine zd_ld C Z G q1 (x.toNat + 1) e1 (by omega) (by omega) dL_law_1886 ?_
    refine lv_aload_n C.1 C.2.1 dL_law_1887 rfl (lv_at hl 3 rfl) ?_
    refine zd_W (as := [.ref o, .int (iZ (q1)), .ref w]) C Z Y G (c_L_irreducible l D cJ o a _ _ _ _ (q1) (by first | assumption | omega) w _ _) ml_L_288 ⟨Nat.le_of_ble_eq_true rfl, Nat.le_of_ble_eq_true rfl⟩ ⟨by show cells + 0 + 0 ≤ 665281; omega, by show slots + 0 + 0 ≤ 7105636; omega⟩ hl (Nat.le_of_ble_eq_true rfl) rfl dL_law_1888 (fun H locs G => ?_)
    refine lv_istore (lv' := [(5, .int (iZ (0))), (0, .ref t), (1, .ref o), (2, .ref u), (3, .ref w), (4, .int (iZ (x)))]) C.1 C.2.1 dL_law_1891 hl (by decide) rfl (fun ls hl => ?_)
    refine lv_aload_n C.1 C.2.1 dL_law_1893 rfl (lv_at hl 3 rfl) ?_
    refine lv_aload_n C.1 C.2.1 dL_law_1894 rfl (lv_at hl 1 rfl) ?_
    refine lv_iload C.1 C.2.1 dL_law_1895 (lv_at hl 5 rfl) ?_
    refine z_iconst C dL_law_1897 ?_
    refine z_iadd C dL_law_1898 ?_
    refine zd_ld C Z G q1 (x.toNat + 1) e1 (by omega) (by omega) dL_law_1899 ?_
    refine zd_M (as := [.int (iZ (q1))]) C Y G (c_X5_irreducible l D cJ u v _ _ _ _ _ (q1) (by first | assumption | omega)) ml_L_290 rfl ⟨Nat.le_of_ble_eq_true rfl, Nat.le_of_ble_eq_true rfl⟩ ⟨by show cells + 0 + 0 ≤ 665281; omega, by show slots + 0 + 0 ≤ 7105636; omega⟩ hl (Nat.le_of_ble_eq_true rfl) rfl dL_law_1900 (fun y9 H locs hy9 G => ?_)
    subst hy9
    refine lv_istore (lv' := [(6, _), (5, .int (iZ (0))), (0, .ref t), (1, .ref o), (2, .ref u), (3, .ref w), (4, .int (iZ (x)))]) C.1 C.2.1 dL_law_1903 hl (by decide) rfl (fun ls hl => ?_)
    refine lv_goto (tgt := 2200) C.1 C.2.1 dL_law_1905 (by decide) ?_
    exact kk _ _ _ _ _ _ _ _ _ _ _ _ G (by omega) (by omega) (lv_sub hl [2, 3, 4, 5, 6] rfl)
  · skip
    refine lv_aload_n C.1 C.2.1 dL_law_1880 rfl (lv_at hl 1 rfl) ?_
    refine lv_aload_n C.1 C.2.1 dL_law_1881 rfl (lv_at hl 0 rfl) ?_
    refine lv_iload C.1 C.2.1 dL_law_1882 (lv_at hl 4 rfl) ?_
    refine z_iconst C dL_law_1884 ?_
    refine z_iadd C dL_law_1885 ?_
    refine zd_ld C Z G q1 (x.toNat + 1) e1 (by omega) (by omega) dL_law_1886 ?_
    refine lv_aload_n C.1 C.2.1 dL_law_1887 rfl (lv_at hl 3 rfl) ?_
    refine zd_W (as := [.ref o, .int (iZ (q1)), .ref w]) C Z Y G (c_L_irreducible_badc l hlq D cJ o a _ _ _ _ (q1) (by first | assumption | omega) (by first | assumption | omega) w _ _) ml_L_288 ⟨Nat.le_of_ble_eq_true rfl, Nat.le_of_ble_eq_true rfl⟩ ⟨by show cells + 0 + 1 ≤ 665281; omega, by show slots + 0 + 6 ≤ 7105636; omega⟩ hl (Nat.le_of_ble_eq_true rfl) rfl dL_law_1888 (fun H locs G => ?_)
    refine lv_istore (lv' := [(5, .int (iZ (1))), (0, .ref t), (1, .ref o), (2, .ref u), (3, .ref w), (4, .int (iZ (x)))]) C.1 C.2.1 dL_law_1891 hl (by decide) rfl (fun ls hl => ?_)
    refine lv_aload_n C.1 C.2.1 dL_law_1893 rfl (lv_at hl 3 rfl) ?_
    refine lv_aload_n C.1 C.2.1 dL_law_1894 rfl (lv_at hl 1 rfl) ?_
    refine lv_iload C.1 C.2.1 dL_law_1895 (lv_at hl 5 rfl) ?_
    refine z_iconst C dL_law_1897 ?_
    refine z_iadd C dL_law_1898 ?_
    refine zd_ld C Z G q1 (x.toNat + 1) e1 (by omega) (by omega) dL_law_1899 ?_
    refine zd_M (as := [.int (iZ (q1))]) C Y G (c_X5_irreducible_bad1 l D cJ u v _ _ _ _ _ (q1) (by first | assumption | omega) (by first | assumption | omega)) ml_L_290 rfl ⟨Nat.le_of_ble_eq_true rfl, Nat.le_of_ble_eq_true rfl⟩ ⟨by show cells + 1 + 0 ≤ 665281; omega, by show slots + 6 + 0 ≤ 7105636; omega⟩ hl (Nat.le_of_ble_eq_true rfl) rfl dL_law_1900 (fun y9 H locs hy9 G => ?_)
    subst hy9
    refine lv_istore (lv' := [(6, _), (5, .int (iZ (1))), (0, .ref t), (1, .ref o), (2, .ref u), (3, .ref w), (4, .int (iZ (x)))]) C.1 C.2.1 dL_law_1903 hl (by decide) rfl (fun ls hl => ?_)
    refine lv_goto (tgt := 2200) C.1 C.2.1 dL_law_1905 (by decide) ?_
    exact kk _ _ _ _ _ _ _ _ _ _ _ _ G (by omega) (by omega) (lv_sub hl [2, 3, 4, 5, 6] rfl)
set_option maxHeartbeats 4000000 in
set_option maxRecDepth 100000 in
theorem lk_37 (hlq : l.stackTraces = false) (C : CallFix p m c0 cL_law 7 s args T0 RL) (Z : zLw D cB t N g s) (Y : zAd o a u v w s) {c : Nat → Nat} {ac re kn : Int32} {th : Int} {n : Int64} {sv : Value} {H : Heap} {locs : List Loc} {ls : Array Slot} {cells slots : Nat} (G : zG D cJ o a u v w c [.int ac, .int re, .int kn] c [.int (iZ th), .int ac, .int re, .int kn] n sv s H locs) (x : Int) (hx : 0 ≤ x ∧ x + 5 ≤ (N : Int)) (hf : cells + 150 ≤ 665281 ∧ slots + 75000 ≤ 7105636) (hl : lv_has ls 7 [(0, .ref t), (1, .ref o), (2, .ref u), (3, .ref w), (4, .int (iZ (x)))])
    (kk : zNx p l e s m args below meth c0 D cJ t o a u v w x cells slots Qw 2200) : W p l e room_1 s m args below meth c0 H locs cells slots Qw (F0 m 1908 ls []) := by
  have hc := G.1.2.2.2
  obtain ⟨q1, e1⟩ : ∃ z, g (x.toNat + 1) = z := ⟨_, rfl⟩
  have r1 : -2147483648 ≤ q1 ∧ q1 ≤ 2147483647 := e1 ▸ Z.2.2.2.2.2.1 _
  by_cases hcel : (0 ≤ q1 ∧ q1 ≤ 5)
  · skip
    refine lv_aload_n C.1 C.2.1 dL_law_1908 rfl (lv_at hl 1 rfl) ?_
    refine lv_aload_n C.1 C.2.1 dL_law_1909 rfl (lv_at hl 0 rfl) ?_
    refine lv_iload C.1 C.2.1 dL_law_1910 (lv_at hl 4 rfl) ?_
    refine z_iconst C dL_law_1912 ?_
    refine z_iadd C dL_law_1913 ?_
    refine zd_ld C Z G q1 (x.toNat + 1) e1 (by omega) (by omega) dL_law_1914 ?_
    refine lv_aload_n C.1 C.2.1 dL_law_1915 rfl (lv_at hl 3 rfl) ?_
    refine zd_W (as := [.ref o, .int (iZ (q1)), .ref w]) C Z Y G (c_L_rank l D cJ o a _ _ _ _ (q1) (by first | assumption | omega) w _ _) ml_L_291 ⟨Nat.le_of_ble_eq_true rfl, Nat.le_of_ble_eq_true rfl⟩ ⟨by show cells + 0 + 0 ≤ 665281; omega, by show slots + 0 + 0 ≤ 7105636; omega⟩ hl (Nat.le_of_ble_eq_true rfl) rfl dL_law_1916 (fun H locs G => ?_)
    refine lv_istore (lv' := [(5, .int (iZ (0))), (0, .ref t), (1, .ref o), (2, .ref u), (3, .ref w), (4, .int (iZ (x)))]) C.1 C.2.1 dL_law_1919 hl (by decide) rfl (fun ls hl => ?_)
    refine lv_aload_n C.1 C.2.1 dL_law_1921 rfl (lv_at hl 3 rfl) ?_
    refine lv_aload_n C.1 C.2.1 dL_law_1922 rfl (lv_at hl 1 rfl) ?_
    refine lv_iload C.1 C.2.1 dL_law_1923 (lv_at hl 5 rfl) ?_
    refine z_iconst C dL_law_1925 ?_
    refine z_iadd C dL_law_1926 ?_
    refine zd_ld C Z G q1 (x.toNat + 1) e1 (by omega) (by omega) dL_law_1927 ?_
    refine zd_M (as := [.int (iZ (q1))]) C Y G (c_X5_rank l D cJ u v _ _ _ _ _ (q1) (by first | assumption | omega)) ml_L_293 rfl ⟨Nat.le_of_ble_eq_true rfl, Nat.le_of_ble_eq_true rfl⟩ ⟨by show cells + 0 + 0 ≤ 665281; omega, by show slots + 0 + 0 ≤ 7105636; omega⟩ hl (Nat.le_of_ble_eq_true rfl) rfl dL_law_1928 (fun y9 H locs hy9 G => ?_)
    subst hy9
    refine lv_istore (lv' := [(6, _), (5, .int (iZ (0))), (0, .ref t), (1, .ref o), (2, .ref u), (3, .ref w), (4, .int (iZ (x)))]) C.1 C.2.1 dL_law_1931 hl (by decide) rfl (fun ls hl => ?_)
    refine lv_goto (tgt := 2200) C.1 C.2.1 dL_law_1933 (by decide) ?_
    exact kk _ _ _ _ _ _ _ _ _ _ _ _ G (by omega) (by omega) (lv_sub hl [2, 3, 4, 5, 6] rfl)
  · skip
    refine lv_aload_n C.1 C.2.1 dL_law_1908 rfl (lv_at hl 1 rfl) ?_
    refine lv_aload_n C.1 C.2.1 dL_law_1909 rfl (lv_at hl 0 rfl) ?_
    refine lv_iload C.1 C.2.1 dL_law_1910 (lv_at hl 4 rfl) ?_
    refine z_iconst C dL_law_1912 ?_
    refine z_iadd C dL_law_1913 ?_
    refine zd_ld C Z G q1 (x.toNat + 1) e1 (by omega) (by omega) dL_law_1914 ?_
    refine lv_aload_n C.1 C.2.1 dL_law_1915 rfl (lv_at hl 3 rfl) ?_
    refine zd_W (as := [.ref o, .int (iZ (q1)), .ref w]) C Z Y G (c_L_rank_badc l hlq D cJ o a _ _ _ _ (q1) (by first | assumption | omega) (by first | assumption | omega) w _ _) ml_L_291 ⟨Nat.le_of_ble_eq_true rfl, Nat.le_of_ble_eq_true rfl⟩ ⟨by show cells + 0 + 1 ≤ 665281; omega, by show slots + 0 + 6 ≤ 7105636; omega⟩ hl (Nat.le_of_ble_eq_true rfl) rfl dL_law_1916 (fun H locs G => ?_)
    refine lv_istore (lv' := [(5, .int (iZ (1))), (0, .ref t), (1, .ref o), (2, .ref u), (3, .ref w), (4, .int (iZ (x)))]) C.1 C.2.1 dL_law_1919 hl (by decide) rfl (fun ls hl => ?_)
    refine lv_aload_n C.1 C.2.1 dL_law_1921 rfl (lv_at hl 3 rfl) ?_
    refine lv_aload_n C.1 C.2.1 dL_law_1922 rfl (lv_at hl 1 rfl) ?_
    refine lv_iload C.1 C.2.1 dL_law_1923 (lv_at hl 5 rfl) ?_
    refine z_iconst C dL_law_1925 ?_
    refine z_iadd C dL_law_1926 ?_
    refine zd_ld C Z G q1 (x.toNat + 1) e1 (by omega) (by omega) dL_law_1927 ?_
    refine zd_M (as := [.int (iZ (q1))]) C Y G (c_X5_rank_bad1 l D cJ u v _ _ _ _ _ (q1) (by first | assumption | omega) (by first | assumption | omega)) ml_L_293 rfl ⟨Nat.le_of_ble_eq_true rfl, Nat.le_of_ble_eq_true rfl⟩ ⟨by show cells + 1 + 0 ≤ 665281; omega, by show slots + 6 + 0 ≤ 7105636; omega⟩ hl (Nat.le_of_ble_eq_true rfl) rfl dL_law_1928 (fun y9 H locs hy9 G => ?_)
    subst hy9
    refine lv_istore (lv' := [(6, _), (5, .int (iZ (1))), (0, .ref t), (1, .ref o), (2, .ref u), (3, .ref w), (4, .int (iZ (x)))]) C.1 C.2.1 dL_law_1931 hl (by decide) rfl (fun ls hl => ?_)
    refine lv_goto (tgt := 2200) C.1 C.2.1 dL_law_1933 (by decide) ?_
    exact kk _ _ _ _ _ _ _ _ _ _ _ _ G (by omega) (by omega) (lv_sub hl [2, 3, 4, 5, 6] rfl)
set_option maxHeartbeats 4000000 in
set_option maxRecDepth 100000 in
theorem lk_38 (hlq : l.stackTraces = false) (C : CallFix p m c0 cL_law 7 s args T0 RL) (Z : zLw D cB t N g s) (Y : zAd o a u v w s) {c : Nat → Nat} {ac re kn : Int32} {th : Int} {n : Int64} {sv : Value} {H : Heap} {locs : List Loc} {ls : Array Slot} {cells slots : Nat} (G : zG D cJ o a u v w c [.int ac, .int re, .int kn] c [.int (iZ th), .int ac, .int re, .int kn] n sv s H locs) (x : Int) (hx : 0 ≤ x ∧ x + 5 ≤ (N : Int)) (hf : cells + 150 ≤ 665281 ∧ slots + 75000 ≤ 7105636) (hl : lv_has ls 7 [(0, .ref t), (1, .ref o), (2, .ref u), (3, .ref w), (4, .int (iZ (x)))])
    (kk : zNx p l e s m args below meth c0 D cJ t o a u v w x cells slots Qw 2200) : W p l e room_1 s m args below meth c0 H locs cells slots Qw (F0 m 1936 ls []) := by
  have hc := G.1.2.2.2
  obtain ⟨q1, e1⟩ : ∃ z, g (x.toNat + 1) = z := ⟨_, rfl⟩
  have r1 : -2147483648 ≤ q1 ∧ q1 ≤ 2147483647 := e1 ▸ Z.2.2.2.2.2.1 _
  by_cases hcel : (0 ≤ q1 ∧ q1 ≤ 5)
  · skip
    by_cases hg : 0 ≤ tp (c q1.toNat) ∧ tp (c q1.toNat) ≤ 8
    · skip
      refine lv_aload_n C.1 C.2.1 dL_law_1936 rfl (lv_at hl 1 rfl) ?_
      refine lv_aload_n C.1 C.2.1 dL_law_1937 rfl (lv_at hl 0 rfl) ?_
      refine lv_iload C.1 C.2.1 dL_law_1938 (lv_at hl 4 rfl) ?_
      refine z_iconst C dL_law_1940 ?_
      refine z_iadd C dL_law_1941 ?_
      refine zd_ld C Z G q1 (x.toNat + 1) e1 (by omega) (by omega) dL_law_1942 ?_
      refine lv_aload_n C.1 C.2.1 dL_law_1943 rfl (lv_at hl 3 rfl) ?_
      refine zd_WV (as := [.ref o, .int (iZ (q1)), .ref w]) C Z Y G (c_L_factors_ok l D cB cJ o a _ _ _ _ (q1) (by first | assumption | omega) (by first | assumption | omega) w _ _) ml_L_294 ⟨Nat.le_of_ble_eq_true rfl, Nat.le_of_ble_eq_true rfl⟩ ⟨by show cells + 0 + 24 ≤ 665281; omega, by show slots + 0 + 10000 ≤ 7105636; omega⟩ hl (Nat.le_of_ble_eq_true rfl) rfl dL_law_1944 (fun sv H locs G => ?_)
      refine lv_istore (lv' := [(5, .int (iZ (0))), (0, .ref t), (1, .ref o), (2, .ref u), (3, .ref w), (4, .int (iZ (x)))]) C.1 C.2.1 dL_law_1947 hl (by decide) rfl (fun ls hl => ?_)
      refine lv_aload_n C.1 C.2.1 dL_law_1949 rfl (lv_at hl 3 rfl) ?_
      refine lv_aload_n C.1 C.2.1 dL_law_1950 rfl (lv_at hl 1 rfl) ?_
      refine lv_iload C.1 C.2.1 dL_law_1951 (lv_at hl 5 rfl) ?_
      refine z_iconst C dL_law_1953 ?_
      refine z_iadd C dL_law_1954 ?_
      refine zd_ld C Z G q1 (x.toNat + 1) e1 (by omega) (by omega) dL_law_1955 ?_
      refine zd_MV (as := [.int (iZ (q1))]) C Z Y G (c_X5_factors_ok l D cB cJ u v _ _ _ _ _ (q1) (by first | assumption | omega) (by first | assumption | omega)) ml_L_296 rfl ⟨Nat.le_of_ble_eq_true rfl, Nat.le_of_ble_eq_true rfl⟩ ⟨by show cells + 24 + 24 ≤ 665281; omega, by show slots + 10000 + 10000 ≤ 7105636; omega⟩ hl (Nat.le_of_ble_eq_true rfl) rfl dL_law_1956 (fun y9 H locs hy9 G => ?_)
      obtain ⟨q9, rfl⟩ := hy9
      refine lv_astore (lv' := [(6, .ref q9), (5, .int (iZ (0))), (0, .ref t), (1, .ref o), (2, .ref u), (3, .ref w), (4, .int (iZ (x)))]) C.1 C.2.1 dL_law_1959 hl (by decide) rfl (fun ls hl => ?_)
      refine lv_goto (tgt := 2200) C.1 C.2.1 dL_law_1961 (by decide) ?_
      exact kk _ _ _ _ _ _ _ _ _ _ _ _ G (by omega) (by omega) (lv_sub hl [2, 3, 4, 5, 6] rfl)
    · skip
      refine lv_aload_n C.1 C.2.1 dL_law_1936 rfl (lv_at hl 1 rfl) ?_
      refine lv_aload_n C.1 C.2.1 dL_law_1937 rfl (lv_at hl 0 rfl) ?_
      refine lv_iload C.1 C.2.1 dL_law_1938 (lv_at hl 4 rfl) ?_
      refine z_iconst C dL_law_1940 ?_
      refine z_iadd C dL_law_1941 ?_
      refine zd_ld C Z G q1 (x.toNat + 1) e1 (by omega) (by omega) dL_law_1942 ?_
      refine lv_aload_n C.1 C.2.1 dL_law_1943 rfl (lv_at hl 3 rfl) ?_
      refine zd_WV (as := [.ref o, .int (iZ (q1)), .ref w]) C Z Y G (c_L_factors_no l D cB cJ o a _ _ _ _ (q1) (by first | assumption | omega) (by first | assumption | omega) w _ _) ml_L_294 ⟨Nat.le_of_ble_eq_true rfl, Nat.le_of_ble_eq_true rfl⟩ ⟨by show cells + 0 + 24 ≤ 665281; omega, by show slots + 0 + 10000 ≤ 7105636; omega⟩ hl (Nat.le_of_ble_eq_true rfl) rfl dL_law_1944 (fun sv H locs G => ?_)
      refine lv_istore (lv' := [(5, .int (iZ (0))), (0, .ref t), (1, .ref o), (2, .ref u), (3, .ref w), (4, .int (iZ (x)))]) C.1 C.2.1 dL_law_1947 hl (by decide) rfl (fun ls hl => ?_)
      refine lv_aload_n C.1 C.2.1 dL_law_1949 rfl (lv_at hl 3 rfl) ?_
      refine lv_aload_n C.1 C.2.1 dL_law_1950 rfl (lv_at hl 1 rfl) ?_
      refine lv_iload C.1 C.2.1 dL_law_1951 (lv_at hl 5 rfl) ?_
      refine z_iconst C dL_law_1953 ?_
      refine z_iadd C dL_law_1954 ?_
      refine zd_ld C Z G q1 (x.toNat + 1) e1 (by omega) (by omega) dL_law_1955 ?_
      refine zd_MV (as := [.int (iZ (q1))]) C Z Y G (c_X5_factors_no l D cB cJ u v _ _ _ _ _ (q1) (by first | assumption | omega) (by first | assumption | omega)) ml_L_296 rfl ⟨Nat.le_of_ble_eq_true rfl, Nat.le_of_ble_eq_true rfl⟩ ⟨by show cells + 24 + 0 ≤ 665281; omega, by show slots + 10000 + 0 ≤ 7105636; omega⟩ hl (Nat.le_of_ble_eq_true rfl) rfl dL_law_1956 (fun y9 H locs hy9 G => ?_)
      obtain ⟨q9, rfl⟩ := hy9
      refine lv_astore (lv' := [(6, .ref q9), (5, .int (iZ (0))), (0, .ref t), (1, .ref o), (2, .ref u), (3, .ref w), (4, .int (iZ (x)))]) C.1 C.2.1 dL_law_1959 hl (by decide) rfl (fun ls hl => ?_)
      refine lv_goto (tgt := 2200) C.1 C.2.1 dL_law_1961 (by decide) ?_
      exact kk _ _ _ _ _ _ _ _ _ _ _ _ G (by omega) (by omega) (lv_sub hl [2, 3, 4, 5, 6] rfl)
  · skip
    refine lv_aload_n C.1 C.2.1 dL_law_1936 rfl (lv_at hl 1 rfl) ?_
    refine lv_aload_n C.1 C.2.1 dL_law_1937 rfl (lv_at hl 0 rfl) ?_
    refine lv_iload C.1 C.2.1 dL_law_1938 (lv_at hl 4 rfl) ?_
    refine z_iconst C dL_law_1940 ?_
    refine z_iadd C dL_law_1941 ?_
    refine zd_ld C Z G q1 (x.toNat + 1) e1 (by omega) (by omega) dL_law_1942 ?_
    refine lv_aload_n C.1 C.2.1 dL_law_1943 rfl (lv_at hl 3 rfl) ?_
    refine zd_W (as := [.ref o, .int (iZ (q1)), .ref w]) C Z Y G (c_L_factors_badc l hlq D cJ o a _ _ _ _ (q1) (by first | assumption | omega) (by first | assumption | omega) w _ _) ml_L_294 ⟨Nat.le_of_ble_eq_true rfl, Nat.le_of_ble_eq_true rfl⟩ ⟨by show cells + 0 + 1 ≤ 665281; omega, by show slots + 0 + 6 ≤ 7105636; omega⟩ hl (Nat.le_of_ble_eq_true rfl) rfl dL_law_1944 (fun H locs G => ?_)
    refine lv_istore (lv' := [(5, .int (iZ (1))), (0, .ref t), (1, .ref o), (2, .ref u), (3, .ref w), (4, .int (iZ (x)))]) C.1 C.2.1 dL_law_1947 hl (by decide) rfl (fun ls hl => ?_)
    refine lv_aload_n C.1 C.2.1 dL_law_1949 rfl (lv_at hl 3 rfl) ?_
    refine lv_aload_n C.1 C.2.1 dL_law_1950 rfl (lv_at hl 1 rfl) ?_
    refine lv_iload C.1 C.2.1 dL_law_1951 (lv_at hl 5 rfl) ?_
    refine z_iconst C dL_law_1953 ?_
    refine z_iadd C dL_law_1954 ?_
    refine zd_ld C Z G q1 (x.toNat + 1) e1 (by omega) (by omega) dL_law_1955 ?_
    refine zd_MV (as := [.int (iZ (q1))]) C Z Y G (c_X5_factors_bad1 l D cB cJ u v _ _ _ _ _ (q1) (by first | assumption | omega) (by first | assumption | omega)) ml_L_296 rfl ⟨Nat.le_of_ble_eq_true rfl, Nat.le_of_ble_eq_true rfl⟩ ⟨by show cells + 1 + 0 ≤ 665281; omega, by show slots + 6 + 0 ≤ 7105636; omega⟩ hl (Nat.le_of_ble_eq_true rfl) rfl dL_law_1956 (fun y9 H locs hy9 G => ?_)
    obtain ⟨q9, rfl⟩ := hy9
    refine lv_astore (lv' := [(6, .ref q9), (5, .int (iZ (1))), (0, .ref t), (1, .ref o), (2, .ref u), (3, .ref w), (4, .int (iZ (x)))]) C.1 C.2.1 dL_law_1959 hl (by decide) rfl (fun ls hl => ?_)
    refine lv_goto (tgt := 2200) C.1 C.2.1 dL_law_1961 (by decide) ?_
    exact kk _ _ _ _ _ _ _ _ _ _ _ _ G (by omega) (by omega) (lv_sub hl [2, 3, 4, 5, 6] rfl)
set_option maxHeartbeats 4000000 in
set_option maxRecDepth 100000 in
theorem lk_39 (hlq : l.stackTraces = false) (C : CallFix p m c0 cL_law 7 s args T0 RL) (Z : zLw D cB t N g s) (Y : zAd o a u v w s) {c : Nat → Nat} {ac re kn : Int32} {th : Int} {n : Int64} {sv : Value} {H : Heap} {locs : List Loc} {ls : Array Slot} {cells slots : Nat} (G : zG D cJ o a u v w c [.int ac, .int re, .int kn] c [.int (iZ th), .int ac, .int re, .int kn] n sv s H locs) (x : Int) (hx : 0 ≤ x ∧ x + 5 ≤ (N : Int)) (hf : cells + 150 ≤ 665281 ∧ slots + 75000 ≤ 7105636) (hl : lv_has ls 7 [(0, .ref t), (1, .ref o), (2, .ref u), (3, .ref w), (4, .int (iZ (x)))])
    (kk : zNx p l e s m args below meth c0 D cJ t o a u v w x cells slots Qw 2200) : W p l e room_1 s m args below meth c0 H locs cells slots Qw (F0 m 1964 ls []) := by
  have hc := G.1.2.2.2
  obtain ⟨q1, e1⟩ : ∃ z, g (x.toNat + 1) = z := ⟨_, rfl⟩
  have r1 : -2147483648 ≤ q1 ∧ q1 ≤ 2147483647 := e1 ▸ Z.2.2.2.2.2.1 _
  by_cases hcel : (0 ≤ q1 ∧ q1 ≤ 5)
  · skip
    refine lv_aload_n C.1 C.2.1 dL_law_1964 rfl (lv_at hl 1 rfl) ?_
    refine lv_aload_n C.1 C.2.1 dL_law_1965 rfl (lv_at hl 0 rfl) ?_
    refine lv_iload C.1 C.2.1 dL_law_1966 (lv_at hl 4 rfl) ?_
    refine z_iconst C dL_law_1968 ?_
    refine z_iadd C dL_law_1969 ?_
    refine zd_ld C Z G q1 (x.toNat + 1) e1 (by omega) (by omega) dL_law_1970 ?_
    refine lv_aload_n C.1 C.2.1 dL_law_1971 rfl (lv_at hl 3 rfl) ?_
    refine zd_W (as := [.ref o, .int (iZ (q1)), .ref w]) C Z Y G (c_L_period l D cJ o a _ _ _ _ (q1) (by first | assumption | omega) w _ _) ml_L_297 ⟨Nat.le_of_ble_eq_true rfl, Nat.le_of_ble_eq_true rfl⟩ ⟨by show cells + 0 + 0 ≤ 665281; omega, by show slots + 0 + 0 ≤ 7105636; omega⟩ hl (Nat.le_of_ble_eq_true rfl) rfl dL_law_1972 (fun H locs G => ?_)
    refine lv_istore (lv' := [(5, .int (iZ (0))), (0, .ref t), (1, .ref o), (2, .ref u), (3, .ref w), (4, .int (iZ (x)))]) C.1 C.2.1 dL_law_1975 hl (by decide) rfl (fun ls hl => ?_)
    refine lv_aload_n C.1 C.2.1 dL_law_1977 rfl (lv_at hl 3 rfl) ?_
    refine lv_aload_n C.1 C.2.1 dL_law_1978 rfl (lv_at hl 1 rfl) ?_
    refine lv_iload C.1 C.2.1 dL_law_1979 (lv_at hl 5 rfl) ?_
    refine z_iconst C dL_law_1981 ?_
    refine z_iadd C dL_law_1982 ?_
    refine zd_ld C Z G q1 (x.toNat + 1) e1 (by omega) (by omega) dL_law_1983 ?_
    refine zd_M (as := [.int (iZ (q1))]) C Y G (c_X5_period l D cJ u v _ _ _ _ _ (q1) (by first | assumption | omega)) ml_L_299 rfl ⟨Nat.le_of_ble_eq_true rfl, Nat.le_of_ble_eq_true rfl⟩ ⟨by show cells + 0 + 0 ≤ 665281; omega, by show slots + 0 + 0 ≤ 7105636; omega⟩ hl (Nat.le_of_ble_eq_true rfl) rfl dL_law_1984 (fun y9 H locs hy9 G => ?_)
    subst hy9
    refine lv_istore (lv' := [(6, _), (5, .int (iZ (0))), (0, .ref t), (1, .ref o), (2, .ref u), (3, .ref w), (4, .int (iZ (x)))]) C.1 C.2.1 dL_law_1987 hl (by decide) rfl (fun ls hl => ?_)
    refine lv_goto (tgt := 2200) C.1 C.2.1 dL_law_1989 (by decide) ?_
    exact kk _ _ _ _ _ _ _ _ _ _ _ _ G (by omega) (by omega) (lv_sub hl [2, 3, 4, 5, 6] rfl)
  · skip
    refine lv_aload_n C.1 C.2.1 dL_law_1964 rfl (lv_at hl 1 rfl) ?_
    refine lv_aload_n C.1 C.2.1 dL_law_1965 rfl (lv_at hl 0 rfl) ?_
    refine lv_iload C.1 C.2.1 dL_law_1966 (lv_at hl 4 rfl) ?_
    refine z_iconst C dL_law_1968 ?_
    refine z_iadd C dL_law_1969 ?_
    refine zd_ld C Z G q1 (x.toNat + 1) e1 (by omega) (by omega) dL_law_1970 ?_
    refine lv_aload_n C.1 C.2.1 dL_law_1971 rfl (lv_at hl 3 rfl) ?_
    refine zd_W (as := [.ref o, .int (iZ (q1)), .ref w]) C Z Y G (c_L_period_badc l hlq D cJ o a _ _ _ _ (q1) (by first | assumption | omega) (by first | assumption | omega) w _ _) ml_L_297 ⟨Nat.le_of_ble_eq_true rfl, Nat.le_of_ble_eq_true rfl⟩ ⟨by show cells + 0 + 1 ≤ 665281; omega, by show slots + 0 + 6 ≤ 7105636; omega⟩ hl (Nat.le_of_ble_eq_true rfl) rfl dL_law_1972 (fun H locs G => ?_)
    refine lv_istore (lv' := [(5, .int (iZ (1))), (0, .ref t), (1, .ref o), (2, .ref u), (3, .ref w), (4, .int (iZ (x)))]) C.1 C.2.1 dL_law_1975 hl (by decide) rfl (fun ls hl => ?_)
    refine lv_aload_n C.1 C.2.1 dL_law_1977 rfl (lv_at hl 3 rfl) ?_
    refine lv_aload_n C.1 C.2.1 dL_law_1978 rfl (lv_at hl 1 rfl) ?_
    refine lv_iload C.1 C.2.1 dL_law_1979 (lv_at hl 5 rfl) ?_
    refine z_iconst C dL_law_1981 ?_
    refine z_iadd C dL_law_1982 ?_
    refine zd_ld C Z G q1 (x.toNat + 1) e1 (by omega) (by omega) dL_law_1983 ?_
    refine zd_M (as := [.int (iZ (q1))]) C Y G (c_X5_period_bad1 l D cJ u v _ _ _ _ _ (q1) (by first | assumption | omega) (by first | assumption | omega)) ml_L_299 rfl ⟨Nat.le_of_ble_eq_true rfl, Nat.le_of_ble_eq_true rfl⟩ ⟨by show cells + 1 + 0 ≤ 665281; omega, by show slots + 6 + 0 ≤ 7105636; omega⟩ hl (Nat.le_of_ble_eq_true rfl) rfl dL_law_1984 (fun y9 H locs hy9 G => ?_)
    subst hy9
    refine lv_istore (lv' := [(6, _), (5, .int (iZ (1))), (0, .ref t), (1, .ref o), (2, .ref u), (3, .ref w), (4, .int (iZ (x)))]) C.1 C.2.1 dL_law_1987 hl (by decide) rfl (fun ls hl => ?_)
    refine lv_goto (tgt := 2200) C.1 C.2.1 dL_law_1989 (by decide) ?_
    exact kk _ _ _ _ _ _ _ _ _ _ _ _ G (by omega) (by omega) (lv_sub hl [2, 3, 4, 5, 6] rfl)
set_option maxHeartbeats 4000000 in
set_option maxRecDepth 100000 in
theorem lk_40 (hlq : l.stackTraces = false) (C : CallFix p m c0 cL_law 7 s args T0 RL) (Z : zLw D cB t N g s) (Y : zAd o a u v w s) {c : Nat → Nat} {ac re kn : Int32} {th : Int} {n : Int64} {sv : Value} {H : Heap} {locs : List Loc} {ls : Array Slot} {cells slots : Nat} (G : zG D cJ o a u v w c [.int ac, .int re, .int kn] c [.int (iZ th), .int ac, .int re, .int kn] n sv s H locs) (x : Int) (hx : 0 ≤ x ∧ x + 5 ≤ (N : Int)) (hf : cells + 150 ≤ 665281 ∧ slots + 75000 ≤ 7105636) (hl : lv_has ls 7 [(0, .ref t), (1, .ref o), (2, .ref u), (3, .ref w), (4, .int (iZ (x)))])
    (kk : zNx p l e s m args below meth c0 D cJ t o a u v w x cells slots Qw 2200) : W p l e room_1 s m args below meth c0 H locs cells slots Qw (F0 m 1992 ls []) := by
  have hc := G.1.2.2.2
  obtain ⟨q1, e1⟩ : ∃ z, g (x.toNat + 1) = z := ⟨_, rfl⟩
  have r1 : -2147483648 ≤ q1 ∧ q1 ≤ 2147483647 := e1 ▸ Z.2.2.2.2.2.1 _
  by_cases hrng : (1 ≤ q1 ∧ q1 ≤ 8)
  · skip
    refine lv_aload_n C.1 C.2.1 dL_law_1992 rfl (lv_at hl 1 rfl) ?_
    refine lv_aload_n C.1 C.2.1 dL_law_1993 rfl (lv_at hl 0 rfl) ?_
    refine lv_iload C.1 C.2.1 dL_law_1994 (lv_at hl 4 rfl) ?_
    refine z_iconst C dL_law_1996 ?_
    refine z_iadd C dL_law_1997 ?_
    refine zd_ld C Z G q1 (x.toNat + 1) e1 (by omega) (by omega) dL_law_1998 ?_
    refine lv_aload_n C.1 C.2.1 dL_law_1999 rfl (lv_at hl 3 rfl) ?_
    refine zd_W (as := [.ref o, .int (iZ (q1)), .ref w]) C Z Y G (c_L_many l D cJ o a _ _ _ _ (q1) (by first | assumption | omega) w _ _) ml_L_300 ⟨Nat.le_of_ble_eq_true rfl, Nat.le_of_ble_eq_true rfl⟩ ⟨by show cells + 0 + 0 ≤ 665281; omega, by show slots + 0 + 0 ≤ 7105636; omega⟩ hl (Nat.le_of_ble_eq_true rfl) rfl dL_law_2000 (fun H locs G => ?_)
    refine lv_istore (lv' := [(5, .int (iZ (0))), (0, .ref t), (1, .ref o), (2, .ref u), (3, .ref w), (4, .int (iZ (x)))]) C.1 C.2.1 dL_law_2003 hl (by decide) rfl (fun ls hl => ?_)
    refine lv_aload_n C.1 C.2.1 dL_law_2005 rfl (lv_at hl 3 rfl) ?_
    refine lv_aload_n C.1 C.2.1 dL_law_2006 rfl (lv_at hl 1 rfl) ?_
    refine lv_iload C.1 C.2.1 dL_law_2007 (lv_at hl 5 rfl) ?_
    refine z_iconst C dL_law_2009 ?_
    refine z_iadd C dL_law_2010 ?_
    refine zd_ld C Z G q1 (x.toNat + 1) e1 (by omega) (by omega) dL_law_2011 ?_
    refine zd_M (as := [.int (iZ (q1))]) C Y G (c_X5_many l D cJ u v _ _ _ _ _ (q1) (by first | assumption | omega)) ml_L_302 rfl ⟨Nat.le_of_ble_eq_true rfl, Nat.le_of_ble_eq_true rfl⟩ ⟨by show cells + 0 + 0 ≤ 665281; omega, by show slots + 0 + 0 ≤ 7105636; omega⟩ hl (Nat.le_of_ble_eq_true rfl) rfl dL_law_2012 (fun y9 H locs hy9 G => ?_)
    subst hy9
    refine lv_istore (lv' := [(6, _), (5, .int (iZ (0))), (0, .ref t), (1, .ref o), (2, .ref u), (3, .ref w), (4, .int (iZ (x)))]) C.1 C.2.1 dL_law_2015 hl (by decide) rfl (fun ls hl => ?_)
    refine lv_goto (tgt := 2200) C.1 C.2.1 dL_law_2017 (by decide) ?_
    exact kk _ _ _ _ _ _ _ _ _ _ _ _ G (by omega) (by omega) (lv_sub hl [2, 3, 4, 5, 6] rfl)
  · skip
    refine lv_aload_n C.1 C.2.1 dL_law_1992 rfl (lv_at hl 1 rfl) ?_
    refine lv_aload_n C.1 C.2.1 dL_law_1993 rfl (lv_at hl 0 rfl) ?_
    refine lv_iload C.1 C.2.1 dL_law_1994 (lv_at hl 4 rfl) ?_
    refine z_iconst C dL_law_1996 ?_
    refine z_iadd C dL_law_1997 ?_
    refine zd_ld C Z G q1 (x.toNat + 1) e1 (by omega) (by omega) dL_law_1998 ?_
    refine lv_aload_n C.1 C.2.1 dL_law_1999 rfl (lv_at hl 3 rfl) ?_
    refine zd_W (as := [.ref o, .int (iZ (q1)), .ref w]) C Z Y G (c_L_many_badr l hlq D cJ o a _ _ _ _ (q1) (by first | assumption | omega) (by first | assumption | omega) w _ _) ml_L_300 ⟨Nat.le_of_ble_eq_true rfl, Nat.le_of_ble_eq_true rfl⟩ ⟨by show cells + 0 + 1 ≤ 665281; omega, by show slots + 0 + 6 ≤ 7105636; omega⟩ hl (Nat.le_of_ble_eq_true rfl) rfl dL_law_2000 (fun H locs G => ?_)
    refine lv_istore (lv' := [(5, .int (iZ (1))), (0, .ref t), (1, .ref o), (2, .ref u), (3, .ref w), (4, .int (iZ (x)))]) C.1 C.2.1 dL_law_2003 hl (by decide) rfl (fun ls hl => ?_)
    refine lv_aload_n C.1 C.2.1 dL_law_2005 rfl (lv_at hl 3 rfl) ?_
    refine lv_aload_n C.1 C.2.1 dL_law_2006 rfl (lv_at hl 1 rfl) ?_
    refine lv_iload C.1 C.2.1 dL_law_2007 (lv_at hl 5 rfl) ?_
    refine z_iconst C dL_law_2009 ?_
    refine z_iadd C dL_law_2010 ?_
    refine zd_ld C Z G q1 (x.toNat + 1) e1 (by omega) (by omega) dL_law_2011 ?_
    refine zd_M (as := [.int (iZ (q1))]) C Y G (c_X5_many_bad1 l D cJ u v _ _ _ _ _ (q1) (by first | assumption | omega) (by first | assumption | omega)) ml_L_302 rfl ⟨Nat.le_of_ble_eq_true rfl, Nat.le_of_ble_eq_true rfl⟩ ⟨by show cells + 1 + 0 ≤ 665281; omega, by show slots + 6 + 0 ≤ 7105636; omega⟩ hl (Nat.le_of_ble_eq_true rfl) rfl dL_law_2012 (fun y9 H locs hy9 G => ?_)
    subst hy9
    refine lv_istore (lv' := [(6, _), (5, .int (iZ (1))), (0, .ref t), (1, .ref o), (2, .ref u), (3, .ref w), (4, .int (iZ (x)))]) C.1 C.2.1 dL_law_2015 hl (by decide) rfl (fun ls hl => ?_)
    refine lv_goto (tgt := 2200) C.1 C.2.1 dL_law_2017 (by decide) ?_
    exact kk _ _ _ _ _ _ _ _ _ _ _ _ G (by omega) (by omega) (lv_sub hl [2, 3, 4, 5, 6] rfl)
set_option maxHeartbeats 4000000 in
set_option maxRecDepth 100000 in
theorem lk_41 (hlq : l.stackTraces = false) (C : CallFix p m c0 cL_law 7 s args T0 RL) (Z : zLw D cB t N g s) (Y : zAd o a u v w s) {c : Nat → Nat} {ac re kn : Int32} {th : Int} {n : Int64} {sv : Value} {H : Heap} {locs : List Loc} {ls : Array Slot} {cells slots : Nat} (G : zG D cJ o a u v w c [.int ac, .int re, .int kn] c [.int (iZ th), .int ac, .int re, .int kn] n sv s H locs) (x : Int) (hx : 0 ≤ x ∧ x + 5 ≤ (N : Int)) (hf : cells + 150 ≤ 665281 ∧ slots + 75000 ≤ 7105636) (hl : lv_has ls 7 [(0, .ref t), (1, .ref o), (2, .ref u), (3, .ref w), (4, .int (iZ (x)))])
    (kk : zNx p l e s m args below meth c0 D cJ t o a u v w x cells slots Qw 2200) : W p l e room_1 s m args below meth c0 H locs cells slots Qw (F0 m 2020 ls []) := by
  have hc := G.1.2.2.2
  obtain ⟨q1, e1⟩ : ∃ z, g (x.toNat + 1) = z := ⟨_, rfl⟩
  have r1 : -2147483648 ≤ q1 ∧ q1 ≤ 2147483647 := e1 ▸ Z.2.2.2.2.2.1 _
  by_cases hrng : (1 ≤ q1 ∧ q1 ≤ 8)
  · skip
    refine lv_aload_n C.1 C.2.1 dL_law_2020 rfl (lv_at hl 1 rfl) ?_
    refine lv_aload_n C.1 C.2.1 dL_law_2021 rfl (lv_at hl 0 rfl) ?_
    refine lv_iload C.1 C.2.1 dL_law_2022 (lv_at hl 4 rfl) ?_
    refine z_iconst C dL_law_2024 ?_
    refine z_iadd C dL_law_2025 ?_
    refine zd_ld C Z G q1 (x.toNat + 1) e1 (by omega) (by omega) dL_law_2026 ?_
    refine lv_aload_n C.1 C.2.1 dL_law_2027 rfl (lv_at hl 3 rfl) ?_
    refine zd_W (as := [.ref o, .int (iZ (q1)), .ref w]) C Z Y G (c_L_formula l D cJ o a _ _ _ _ (q1) (by first | assumption | omega) w _ _) ml_L_303 ⟨Nat.le_of_ble_eq_true rfl, Nat.le_of_ble_eq_true rfl⟩ ⟨by show cells + 0 + 0 ≤ 665281; omega, by show slots + 0 + 0 ≤ 7105636; omega⟩ hl (Nat.le_of_ble_eq_true rfl) rfl dL_law_2028 (fun H locs G => ?_)
    refine lv_istore (lv' := [(5, .int (iZ (0))), (0, .ref t), (1, .ref o), (2, .ref u), (3, .ref w), (4, .int (iZ (x)))]) C.1 C.2.1 dL_law_2031 hl (by decide) rfl (fun ls hl => ?_)
    refine lv_aload_n C.1 C.2.1 dL_law_2033 rfl (lv_at hl 3 rfl) ?_
    refine lv_aload_n C.1 C.2.1 dL_law_2034 rfl (lv_at hl 1 rfl) ?_
    refine lv_iload C.1 C.2.1 dL_law_2035 (lv_at hl 5 rfl) ?_
    refine z_iconst C dL_law_2037 ?_
    refine z_iadd C dL_law_2038 ?_
    refine zd_ld C Z G q1 (x.toNat + 1) e1 (by omega) (by omega) dL_law_2039 ?_
    refine zd_MV (as := [.int (iZ (q1))]) C Z Y G (c_X5_formula l D cB cJ u v _ _ _ _ _ (q1) (by first | assumption | omega)) ml_L_305 rfl ⟨Nat.le_of_ble_eq_true rfl, Nat.le_of_ble_eq_true rfl⟩ ⟨by show cells + 0 + 0 ≤ 665281; omega, by show slots + 0 + 0 ≤ 7105636; omega⟩ hl (Nat.le_of_ble_eq_true rfl) rfl dL_law_2040 (fun y9 H locs hy9 G => ?_)
    subst hy9
    refine lv_istore (lv' := [(6, _), (5, .int (iZ (0))), (0, .ref t), (1, .ref o), (2, .ref u), (3, .ref w), (4, .int (iZ (x)))]) C.1 C.2.1 dL_law_2043 hl (by decide) rfl (fun ls hl => ?_)
    refine lv_aload_n C.1 C.2.1 dL_law_2045 rfl (lv_at hl 4 rfl) ?_
    refine zd_M (as := []) C Y G (c_X5_thrown l D cJ u v _ _ _ _ _) ml_L_306 rfl ⟨Nat.le_of_ble_eq_true rfl, Nat.le_of_ble_eq_true rfl⟩ ⟨by show cells + 0 + 0 ≤ 665281; omega, by show slots + 0 + 0 ≤ 7105636; omega⟩ hl (Nat.le_of_ble_eq_true rfl) rfl dL_law_2046 (fun y9 H locs hy9 G => ?_)
    subst hy9
    refine lv_iload C.1 C.2.1 dL_law_2049 (lv_at hl 1 rfl) ?_
    refine zd_eqv (tgt := 2056) C (by first | rfl | rw [so_eq hc]) dL_law_2051 (by decide) ?_
    refine lv_iload C.1 C.2.1 dL_law_2056 (lv_at hl 1 rfl) ?_
    refine z_if_ne (tgt := 2074) (z := 0) C (by omega) dL_law_2058 (by decide) (fun h => absurd rfl h) (fun _ => ?_)
    refine lv_aload_n C.1 C.2.1 dL_law_2061 rfl (lv_at hl 5 rfl) ?_
    refine zd_getn C Z G dL_law_2062 ?_
    refine lv_iload C.1 C.2.1 dL_law_2065 (lv_at hl 0 rfl) ?_
    refine lv_i2l C.1 C.2.1 dL_law_2067 rfl ?_
    refine zd_lceq (tgt := 2074) C (by first | rfl | (rw [so_eq hc])) dL_law_2068 dL_law_2069 (by decide) ?_
    refine lv_goto (tgt := 2200) C.1 C.2.1 dL_law_2074 (by decide) ?_
    exact kk _ _ _ _ _ _ _ _ _ _ _ _ G (by omega) (by omega) (lv_sub hl [2, 3, 4, 5, 6] rfl)
  · skip
    refine lv_aload_n C.1 C.2.1 dL_law_2020 rfl (lv_at hl 1 rfl) ?_
    refine lv_aload_n C.1 C.2.1 dL_law_2021 rfl (lv_at hl 0 rfl) ?_
    refine lv_iload C.1 C.2.1 dL_law_2022 (lv_at hl 4 rfl) ?_
    refine z_iconst C dL_law_2024 ?_
    refine z_iadd C dL_law_2025 ?_
    refine zd_ld C Z G q1 (x.toNat + 1) e1 (by omega) (by omega) dL_law_2026 ?_
    refine lv_aload_n C.1 C.2.1 dL_law_2027 rfl (lv_at hl 3 rfl) ?_
    refine zd_W (as := [.ref o, .int (iZ (q1)), .ref w]) C Z Y G (c_L_formula_badr l hlq D cJ o a _ _ _ _ (q1) (by first | assumption | omega) (by first | assumption | omega) w _ _) ml_L_303 ⟨Nat.le_of_ble_eq_true rfl, Nat.le_of_ble_eq_true rfl⟩ ⟨by show cells + 0 + 1 ≤ 665281; omega, by show slots + 0 + 6 ≤ 7105636; omega⟩ hl (Nat.le_of_ble_eq_true rfl) rfl dL_law_2028 (fun H locs G => ?_)
    refine lv_istore (lv' := [(5, .int (iZ (1))), (0, .ref t), (1, .ref o), (2, .ref u), (3, .ref w), (4, .int (iZ (x)))]) C.1 C.2.1 dL_law_2031 hl (by decide) rfl (fun ls hl => ?_)
    refine lv_aload_n C.1 C.2.1 dL_law_2033 rfl (lv_at hl 3 rfl) ?_
    refine lv_aload_n C.1 C.2.1 dL_law_2034 rfl (lv_at hl 1 rfl) ?_
    refine lv_iload C.1 C.2.1 dL_law_2035 (lv_at hl 5 rfl) ?_
    refine z_iconst C dL_law_2037 ?_
    refine z_iadd C dL_law_2038 ?_
    refine zd_ld C Z G q1 (x.toNat + 1) e1 (by omega) (by omega) dL_law_2039 ?_
    refine zd_M (as := [.int (iZ (q1))]) C Y G (c_X5_formula_bad1 l D cJ u v _ _ _ _ _ (q1) (by first | assumption | omega) (by first | assumption | omega)) ml_L_305 rfl ⟨Nat.le_of_ble_eq_true rfl, Nat.le_of_ble_eq_true rfl⟩ ⟨by show cells + 1 + 0 ≤ 665281; omega, by show slots + 6 + 0 ≤ 7105636; omega⟩ hl (Nat.le_of_ble_eq_true rfl) rfl dL_law_2040 (fun y9 H locs hy9 G => ?_)
    subst hy9
    refine lv_istore (lv' := [(6, _), (5, .int (iZ (1))), (0, .ref t), (1, .ref o), (2, .ref u), (3, .ref w), (4, .int (iZ (x)))]) C.1 C.2.1 dL_law_2043 hl (by decide) rfl (fun ls hl => ?_)
    refine lv_aload_n C.1 C.2.1 dL_law_2045 rfl (lv_at hl 4 rfl) ?_
    refine zd_M (as := []) C Y G (c_X5_thrown l D cJ u v _ _ _ _ _) ml_L_306 rfl ⟨Nat.le_of_ble_eq_true rfl, Nat.le_of_ble_eq_true rfl⟩ ⟨by show cells + 1 + 0 ≤ 665281; omega, by show slots + 6 + 0 ≤ 7105636; omega⟩ hl (Nat.le_of_ble_eq_true rfl) rfl dL_law_2046 (fun y9 H locs hy9 G => ?_)
    subst hy9
    refine lv_iload C.1 C.2.1 dL_law_2049 (lv_at hl 1 rfl) ?_
    refine zd_eqv (tgt := 2056) C (by first | rfl | rw [so_eq hc]) dL_law_2051 (by decide) ?_
    refine lv_iload C.1 C.2.1 dL_law_2056 (lv_at hl 1 rfl) ?_
    refine z_if_ne (tgt := 2074) (z := 1) C (by omega) dL_law_2058 (by decide) (fun _ => ?_) (fun h => absurd h (by decide))
    refine lv_goto (tgt := 2200) C.1 C.2.1 dL_law_2074 (by decide) ?_
    exact kk _ _ _ _ _ _ _ _ _ _ _ _ G (by omega) (by omega) (lv_sub hl [2, 3, 4, 5, 6] rfl)
set_option maxHeartbeats 4000000 in
set_option maxRecDepth 100000 in
theorem lk_42 (hlq : l.stackTraces = false) (C : CallFix p m c0 cL_law 7 s args T0 RL) (Z : zLw D cB t N g s) (Y : zAd o a u v w s) {c : Nat → Nat} {ac re kn : Int32} {th : Int} {n : Int64} {sv : Value} {H : Heap} {locs : List Loc} {ls : Array Slot} {cells slots : Nat} (G : zG D cJ o a u v w c [.int ac, .int re, .int kn] c [.int (iZ th), .int ac, .int re, .int kn] n sv s H locs) (x : Int) (hx : 0 ≤ x ∧ x + 5 ≤ (N : Int)) (hf : cells + 150 ≤ 665281 ∧ slots + 75000 ≤ 7105636) (hl : lv_has ls 7 [(0, .ref t), (1, .ref o), (2, .ref u), (3, .ref w), (4, .int (iZ (x)))])
    (kk : zNx p l e s m args below meth c0 D cJ t o a u v w x cells slots Qw 2200) : W p l e room_1 s m args below meth c0 H locs cells slots Qw (F0 m 2077 ls []) := by
  have hc := G.1.2.2.2
  obtain ⟨q1, e1⟩ : ∃ z, g (x.toNat + 1) = z := ⟨_, rfl⟩
  have r1 : -2147483648 ≤ q1 ∧ q1 ≤ 2147483647 := e1 ▸ Z.2.2.2.2.2.1 _
  obtain ⟨q2, e2⟩ : ∃ z, g (x.toNat + 2) = z := ⟨_, rfl⟩
  have r2 : -2147483648 ≤ q2 ∧ q2 ≤ 2147483647 := e2 ▸ Z.2.2.2.2.2.1 _
  by_cases hcel : (0 ≤ q1 ∧ q1 ≤ 5)
  · skip
    refine lv_aload_n C.1 C.2.1 dL_law_2077 rfl (lv_at hl 1 rfl) ?_
    refine lv_aload_n C.1 C.2.1 dL_law_2078 rfl (lv_at hl 0 rfl) ?_
    refine lv_iload C.1 C.2.1 dL_law_2079 (lv_at hl 4 rfl) ?_
    refine z_iconst C dL_law_2081 ?_
    refine z_iadd C dL_law_2082 ?_
    refine zd_ld C Z G q1 (x.toNat + 1) e1 (by omega) (by omega) dL_law_2083 ?_
    refine lv_aload_n C.1 C.2.1 dL_law_2084 rfl (lv_at hl 0 rfl) ?_
    refine lv_iload C.1 C.2.1 dL_law_2085 (lv_at hl 4 rfl) ?_
    refine z_iconst C dL_law_2087 ?_
    refine z_iadd C dL_law_2088 ?_
    refine zd_ld C Z G q2 (x.toNat + 2) e2 (by omega) (by omega) dL_law_2089 ?_
    refine zd_nz C (by omega) dL_law_2090 dL_law_2093 dL_law_2094 dL_law_2097 ?_
    refine lv_aload_n C.1 C.2.1 dL_law_2098 rfl (lv_at hl 3 rfl) ?_
    refine zd_W (as := [.ref o, .int (iZ (q1)), .int (iZ (zB (decide (q2 ≠ 0)))), .ref w]) C Z Y G (c_L_find l D cJ o a _ _ _ _ (q1) (decide (q2 ≠ 0)) (by first | assumption | omega) w _ _) ml_L_310 ⟨Nat.le_of_ble_eq_true rfl, Nat.le_of_ble_eq_true rfl⟩ ⟨by show cells + 0 + 0 ≤ 665281; omega, by show slots + 0 + 0 ≤ 7105636; omega⟩ hl (Nat.le_of_ble_eq_true rfl) rfl dL_law_2099 (fun H locs G => ?_)
    refine lv_istore (lv' := [(5, .int (iZ (0))), (0, .ref t), (1, .ref o), (2, .ref u), (3, .ref w), (4, .int (iZ (x)))]) C.1 C.2.1 dL_law_2102 hl (by decide) rfl (fun ls hl => ?_)
    refine lv_aload_n C.1 C.2.1 dL_law_2104 rfl (lv_at hl 3 rfl) ?_
    refine lv_aload_n C.1 C.2.1 dL_law_2105 rfl (lv_at hl 1 rfl) ?_
    refine lv_iload C.1 C.2.1 dL_law_2106 (lv_at hl 5 rfl) ?_
    refine z_iconst C dL_law_2108 ?_
    refine z_iadd C dL_law_2109 ?_
    refine zd_ld C Z G q1 (x.toNat + 1) e1 (by omega) (by omega) dL_law_2110 ?_
    refine lv_aload_n C.1 C.2.1 dL_law_2111 rfl (lv_at hl 1 rfl) ?_
    refine lv_iload C.1 C.2.1 dL_law_2112 (lv_at hl 5 rfl) ?_
    refine z_iconst C dL_law_2114 ?_
    refine z_iadd C dL_law_2115 ?_
    refine zd_ld C Z G q2 (x.toNat + 2) e2 (by omega) (by omega) dL_law_2116 ?_
    refine zd_nz C (by omega) dL_law_2117 dL_law_2120 dL_law_2121 dL_law_2124 ?_
    refine zd_M (as := [.int (iZ (q1)), .int (iZ (zB (decide (q2 ≠ 0))))]) C Y G (c_X5_find l D cJ u v _ _ _ _ _ (q1) (decide (q2 ≠ 0)) (by first | assumption | omega)) ml_L_312 rfl ⟨Nat.le_of_ble_eq_true rfl, Nat.le_of_ble_eq_true rfl⟩ ⟨by show cells + 0 + 0 ≤ 665281; omega, by show slots + 0 + 0 ≤ 7105636; omega⟩ hl (Nat.le_of_ble_eq_true rfl) rfl dL_law_2125 (fun y9 H locs hy9 G => ?_)
    subst hy9
    refine lv_istore (lv' := [(6, _), (5, .int (iZ (0))), (0, .ref t), (1, .ref o), (2, .ref u), (3, .ref w), (4, .int (iZ (x)))]) C.1 C.2.1 dL_law_2128 hl (by decide) rfl (fun ls hl => ?_)
    refine lv_goto (tgt := 2200) C.1 C.2.1 dL_law_2130 (by decide) ?_
    exact kk _ _ _ _ _ _ _ _ _ _ _ _ G (by omega) (by omega) (lv_sub hl [2, 3, 4, 5, 6] rfl)
  · skip
    refine lv_aload_n C.1 C.2.1 dL_law_2077 rfl (lv_at hl 1 rfl) ?_
    refine lv_aload_n C.1 C.2.1 dL_law_2078 rfl (lv_at hl 0 rfl) ?_
    refine lv_iload C.1 C.2.1 dL_law_2079 (lv_at hl 4 rfl) ?_
    refine z_iconst C dL_law_2081 ?_
    refine z_iadd C dL_law_2082 ?_
    refine zd_ld C Z G q1 (x.toNat + 1) e1 (by omega) (by omega) dL_law_2083 ?_
    refine lv_aload_n C.1 C.2.1 dL_law_2084 rfl (lv_at hl 0 rfl) ?_
    refine lv_iload C.1 C.2.1 dL_law_2085 (lv_at hl 4 rfl) ?_
    refine z_iconst C dL_law_2087 ?_
    refine z_iadd C dL_law_2088 ?_
    refine zd_ld C Z G q2 (x.toNat + 2) e2 (by omega) (by omega) dL_law_2089 ?_
    refine zd_nz C (by omega) dL_law_2090 dL_law_2093 dL_law_2094 dL_law_2097 ?_
    refine lv_aload_n C.1 C.2.1 dL_law_2098 rfl (lv_at hl 3 rfl) ?_
    refine zd_W (as := [.ref o, .int (iZ (q1)), .int (iZ (zB (decide (q2 ≠ 0)))), .ref w]) C Z Y G (c_L_find_badc l hlq D cJ o a _ _ _ _ (q1) (decide (q2 ≠ 0)) (by first | assumption | omega) (by first | assumption | omega) w _ _) ml_L_310 ⟨Nat.le_of_ble_eq_true rfl, Nat.le_of_ble_eq_true rfl⟩ ⟨by show cells + 0 + 1 ≤ 665281; omega, by show slots + 0 + 6 ≤ 7105636; omega⟩ hl (Nat.le_of_ble_eq_true rfl) rfl dL_law_2099 (fun H locs G => ?_)
    refine lv_istore (lv' := [(5, .int (iZ (1))), (0, .ref t), (1, .ref o), (2, .ref u), (3, .ref w), (4, .int (iZ (x)))]) C.1 C.2.1 dL_law_2102 hl (by decide) rfl (fun ls hl => ?_)
    refine lv_aload_n C.1 C.2.1 dL_law_2104 rfl (lv_at hl 3 rfl) ?_
    refine lv_aload_n C.1 C.2.1 dL_law_2105 rfl (lv_at hl 1 rfl) ?_
    refine lv_iload C.1 C.2.1 dL_law_2106 (lv_at hl 5 rfl) ?_
    refine z_iconst C dL_law_2108 ?_
    refine z_iadd C dL_law_2109 ?_
    refine zd_ld C Z G q1 (x.toNat + 1) e1 (by omega) (by omega) dL_law_2110 ?_
    refine lv_aload_n C.1 C.2.1 dL_law_2111 rfl (lv_at hl 1 rfl) ?_
    refine lv_iload C.1 C.2.1 dL_law_2112 (lv_at hl 5 rfl) ?_
    refine z_iconst C dL_law_2114 ?_
    refine z_iadd C dL_law_2115 ?_
    refine zd_ld C Z G q2 (x.toNat + 2) e2 (by omega) (by omega) dL_law_2116 ?_
    refine zd_nz C (by omega) dL_law_2117 dL_law_2120 dL_law_2121 dL_law_2124 ?_
    refine zd_M (as := [.int (iZ (q1)), .int (iZ (zB (decide (q2 ≠ 0))))]) C Y G (c_X5_find_bad1 l D cJ u v _ _ _ _ _ (q1) (decide (q2 ≠ 0)) (by first | assumption | omega) (by first | assumption | omega)) ml_L_312 rfl ⟨Nat.le_of_ble_eq_true rfl, Nat.le_of_ble_eq_true rfl⟩ ⟨by show cells + 1 + 0 ≤ 665281; omega, by show slots + 6 + 0 ≤ 7105636; omega⟩ hl (Nat.le_of_ble_eq_true rfl) rfl dL_law_2125 (fun y9 H locs hy9 G => ?_)
    subst hy9
    refine lv_istore (lv' := [(6, _), (5, .int (iZ (1))), (0, .ref t), (1, .ref o), (2, .ref u), (3, .ref w), (4, .int (iZ (x)))]) C.1 C.2.1 dL_law_2128 hl (by decide) rfl (fun ls hl => ?_)
    refine lv_goto (tgt := 2200) C.1 C.2.1 dL_law_2130 (by decide) ?_
    exact kk _ _ _ _ _ _ _ _ _ _ _ _ G (by omega) (by omega) (lv_sub hl [2, 3, 4, 5, 6] rfl)
set_option maxHeartbeats 4000000 in
set_option maxRecDepth 100000 in
theorem lk_43 (hlq : l.stackTraces = false) (C : CallFix p m c0 cL_law 7 s args T0 RL) (Z : zLw D cB t N g s) (Y : zAd o a u v w s) {c : Nat → Nat} {ac re kn : Int32} {th : Int} {n : Int64} {sv : Value} {H : Heap} {locs : List Loc} {ls : Array Slot} {cells slots : Nat} (G : zG D cJ o a u v w c [.int ac, .int re, .int kn] c [.int (iZ th), .int ac, .int re, .int kn] n sv s H locs) (x : Int) (hx : 0 ≤ x ∧ x + 5 ≤ (N : Int)) (hf : cells + 150 ≤ 665281 ∧ slots + 75000 ≤ 7105636) (hl : lv_has ls 7 [(0, .ref t), (1, .ref o), (2, .ref u), (3, .ref w), (4, .int (iZ (x)))])
    (kk : zNx p l e s m args below meth c0 D cJ t o a u v w x cells slots Qw 2200) : W p l e room_1 s m args below meth c0 H locs cells slots Qw (F0 m 2133 ls []) := by
  have hc := G.1.2.2.2
  obtain ⟨q1, e1⟩ : ∃ z, g (x.toNat + 1) = z := ⟨_, rfl⟩
  have r1 : -2147483648 ≤ q1 ∧ q1 ≤ 2147483647 := e1 ▸ Z.2.2.2.2.2.1 _
  by_cases hrng : (0 ≤ q1 ∧ q1 ≤ 4)
  · skip
    refine lv_aload_n C.1 C.2.1 dL_law_2133 rfl (lv_at hl 1 rfl) ?_
    refine lv_aload_n C.1 C.2.1 dL_law_2134 rfl (lv_at hl 0 rfl) ?_
    refine lv_iload C.1 C.2.1 dL_law_2135 (lv_at hl 4 rfl) ?_
    refine z_iconst C dL_law_2137 ?_
    refine z_iadd C dL_law_2138 ?_
    refine zd_ld C Z G q1 (x.toNat + 1) e1 (by omega) (by omega) dL_law_2139 ?_
    refine lv_aload_n C.1 C.2.1 dL_law_2140 rfl (lv_at hl 3 rfl) ?_
    refine zd_W (as := [.ref o, .int (iZ (q1)), .ref w]) C Z Y G (c_L_house l D cJ o a _ _ _ _ (q1) (by first | assumption | omega) w _ _) ml_L_313 ⟨Nat.le_of_ble_eq_true rfl, Nat.le_of_ble_eq_true rfl⟩ ⟨by show cells + 0 + 0 ≤ 665281; omega, by show slots + 0 + 0 ≤ 7105636; omega⟩ hl (Nat.le_of_ble_eq_true rfl) rfl dL_law_2141 (fun H locs G => ?_)
    refine lv_istore (lv' := [(5, .int (iZ (0))), (0, .ref t), (1, .ref o), (2, .ref u), (3, .ref w), (4, .int (iZ (x)))]) C.1 C.2.1 dL_law_2144 hl (by decide) rfl (fun ls hl => ?_)
    refine lv_aload_n C.1 C.2.1 dL_law_2146 rfl (lv_at hl 3 rfl) ?_
    refine lv_aload_n C.1 C.2.1 dL_law_2147 rfl (lv_at hl 1 rfl) ?_
    refine lv_iload C.1 C.2.1 dL_law_2148 (lv_at hl 5 rfl) ?_
    refine z_iconst C dL_law_2150 ?_
    refine z_iadd C dL_law_2151 ?_
    refine zd_ld C Z G q1 (x.toNat + 1) e1 (by omega) (by omega) dL_law_2152 ?_
    refine zd_M (as := [.int (iZ (q1))]) C Y G (c_X5_house l D cJ u v _ _ _ _ _ (q1) (by first | assumption | omega)) ml_L_315 rfl ⟨Nat.le_of_ble_eq_true rfl, Nat.le_of_ble_eq_true rfl⟩ ⟨by show cells + 0 + 0 ≤ 665281; omega, by show slots + 0 + 0 ≤ 7105636; omega⟩ hl (Nat.le_of_ble_eq_true rfl) rfl dL_law_2153 (fun y9 H locs hy9 G => ?_)
    subst hy9
    refine lv_istore (lv' := [(6, _), (5, .int (iZ (0))), (0, .ref t), (1, .ref o), (2, .ref u), (3, .ref w), (4, .int (iZ (x)))]) C.1 C.2.1 dL_law_2156 hl (by decide) rfl (fun ls hl => ?_)
    refine lv_goto (tgt := 2200) C.1 C.2.1 dL_law_2158 (by decide) ?_
    exact kk _ _ _ _ _ _ _ _ _ _ _ _ G (by omega) (by omega) (lv_sub hl [2, 3, 4, 5, 6] rfl)
  · skip
    refine lv_aload_n C.1 C.2.1 dL_law_2133 rfl (lv_at hl 1 rfl) ?_
    refine lv_aload_n C.1 C.2.1 dL_law_2134 rfl (lv_at hl 0 rfl) ?_
    refine lv_iload C.1 C.2.1 dL_law_2135 (lv_at hl 4 rfl) ?_
    refine z_iconst C dL_law_2137 ?_
    refine z_iadd C dL_law_2138 ?_
    refine zd_ld C Z G q1 (x.toNat + 1) e1 (by omega) (by omega) dL_law_2139 ?_
    refine lv_aload_n C.1 C.2.1 dL_law_2140 rfl (lv_at hl 3 rfl) ?_
    refine zd_W (as := [.ref o, .int (iZ (q1)), .ref w]) C Z Y G (c_L_house_badr l hlq D cJ o a _ _ _ _ (q1) (by first | assumption | omega) (by first | assumption | omega) w _ _) ml_L_313 ⟨Nat.le_of_ble_eq_true rfl, Nat.le_of_ble_eq_true rfl⟩ ⟨by show cells + 0 + 1 ≤ 665281; omega, by show slots + 0 + 6 ≤ 7105636; omega⟩ hl (Nat.le_of_ble_eq_true rfl) rfl dL_law_2141 (fun H locs G => ?_)
    refine lv_istore (lv' := [(5, .int (iZ (1))), (0, .ref t), (1, .ref o), (2, .ref u), (3, .ref w), (4, .int (iZ (x)))]) C.1 C.2.1 dL_law_2144 hl (by decide) rfl (fun ls hl => ?_)
    refine lv_aload_n C.1 C.2.1 dL_law_2146 rfl (lv_at hl 3 rfl) ?_
    refine lv_aload_n C.1 C.2.1 dL_law_2147 rfl (lv_at hl 1 rfl) ?_
    refine lv_iload C.1 C.2.1 dL_law_2148 (lv_at hl 5 rfl) ?_
    refine z_iconst C dL_law_2150 ?_
    refine z_iadd C dL_law_2151 ?_
    refine zd_ld C Z G q1 (x.toNat + 1) e1 (by omega) (by omega) dL_law_2152 ?_
    refine zd_M (as := [.int (iZ (q1))]) C Y G (c_X5_house_bad1 l D cJ u v _ _ _ _ _ (q1) (by first | assumption | omega) (by first | assumption | omega)) ml_L_315 rfl ⟨Nat.le_of_ble_eq_true rfl, Nat.le_of_ble_eq_true rfl⟩ ⟨by show cells + 1 + 0 ≤ 665281; omega, by show slots + 6 + 0 ≤ 7105636; omega⟩ hl (Nat.le_of_ble_eq_true rfl) rfl dL_law_2153 (fun y9 H locs hy9 G => ?_)
    subst hy9
    refine lv_istore (lv' := [(6, _), (5, .int (iZ (1))), (0, .ref t), (1, .ref o), (2, .ref u), (3, .ref w), (4, .int (iZ (x)))]) C.1 C.2.1 dL_law_2156 hl (by decide) rfl (fun ls hl => ?_)
    refine lv_goto (tgt := 2200) C.1 C.2.1 dL_law_2158 (by decide) ?_
    exact kk _ _ _ _ _ _ _ _ _ _ _ _ G (by omega) (by omega) (lv_sub hl [2, 3, 4, 5, 6] rfl)
set_option maxHeartbeats 4000000 in
set_option maxRecDepth 100000 in
theorem lk_44 (hlq : l.stackTraces = false) (C : CallFix p m c0 cL_law 7 s args T0 RL) (Z : zLw D cB t N g s) (Y : zAd o a u v w s) {c : Nat → Nat} {ac re kn : Int32} {th : Int} {n : Int64} {sv : Value} {H : Heap} {locs : List Loc} {ls : Array Slot} {cells slots : Nat} (G : zG D cJ o a u v w c [.int ac, .int re, .int kn] c [.int (iZ th), .int ac, .int re, .int kn] n sv s H locs) (x : Int) (hx : 0 ≤ x ∧ x + 5 ≤ (N : Int)) (hf : cells + 150 ≤ 665281 ∧ slots + 75000 ≤ 7105636) (hl : lv_has ls 7 [(0, .ref t), (1, .ref o), (2, .ref u), (3, .ref w), (4, .int (iZ (x)))])
    (kk : zNx p l e s m args below meth c0 D cJ t o a u v w x cells slots Qw 2200) : W p l e room_1 s m args below meth c0 H locs cells slots Qw (F0 m 2161 ls []) := by
  have hc := G.1.2.2.2
  refine lv_aload_n C.1 C.2.1 dL_law_2161 rfl (lv_at hl 1 rfl) ?_
  refine zd_X (as := []) C Y G (c_X3_knock l D cJ o a _ _ _ _) ml_L_316 rfl ⟨Nat.le_of_ble_eq_true rfl, Nat.le_of_ble_eq_true rfl⟩ ⟨by show cells + 0 + 0 ≤ 665281; omega, by show slots + 0 + 0 ≤ 7105636; omega⟩ hl (Nat.le_of_ble_eq_true rfl) rfl dL_law_2162 (fun y9 H locs hy9 G => ?_)
  subst hy9
  refine lv_pop C.1 C.2.1 dL_law_2165 rfl ?_
  refine lv_aload_n C.1 C.2.1 dL_law_2166 rfl (lv_at hl 2 rfl) ?_
  refine zd_M (as := []) C Y G (c_X5_knock l D cJ u v _ _ _ _ _) ml_L_319 rfl ⟨Nat.le_of_ble_eq_true rfl, Nat.le_of_ble_eq_true rfl⟩ ⟨by show cells + 0 + 0 ≤ 665281; omega, by show slots + 0 + 0 ≤ 7105636; omega⟩ hl (Nat.le_of_ble_eq_true rfl) rfl dL_law_2167 (fun y9 H locs hy9 G => ?_)
  subst hy9
  refine lv_pop C.1 C.2.1 dL_law_2170 rfl ?_
  refine lv_goto (tgt := 2200) C.1 C.2.1 dL_law_2171 (by decide) ?_
  exact kk _ _ _ _ _ _ _ _ _ _ _ _ G (by omega) (by omega) (lv_sub hl [0, 1, 2, 3, 4] rfl)
set_option maxHeartbeats 4000000 in
set_option maxRecDepth 100000 in
theorem lk_45 (hlq : l.stackTraces = false) (C : CallFix p m c0 cL_law 7 s args T0 RL) (Z : zLw D cB t N g s) (Y : zAd o a u v w s) {c : Nat → Nat} {ac re kn : Int32} {th : Int} {n : Int64} {sv : Value} {H : Heap} {locs : List Loc} {ls : Array Slot} {cells slots : Nat} (G : zG D cJ o a u v w c [.int ac, .int re, .int kn] c [.int (iZ th), .int ac, .int re, .int kn] n sv s H locs) (x : Int) (hx : 0 ≤ x ∧ x + 5 ≤ (N : Int)) (hf : cells + 150 ≤ 665281 ∧ slots + 75000 ≤ 7105636) (hl : lv_has ls 7 [(0, .ref t), (1, .ref o), (2, .ref u), (3, .ref w), (4, .int (iZ (x)))])
    (kk : zNx p l e s m args below meth c0 D cJ t o a u v w x cells slots Qw 2200) : W p l e room_1 s m args below meth c0 H locs cells slots Qw (F0 m 2174 ls []) := by
  have hc := G.1.2.2.2
  refine lv_aload_n C.1 C.2.1 dL_law_2174 rfl (lv_at hl 1 rfl) ?_
  refine zd_X (as := []) C Y G (c_X3_isSound l D cJ o a _ _ _ _) ml_L_320 rfl ⟨Nat.le_of_ble_eq_true rfl, Nat.le_of_ble_eq_true rfl⟩ ⟨by show cells + 0 + 0 ≤ 665281; omega, by show slots + 0 + 0 ≤ 7105636; omega⟩ hl (Nat.le_of_ble_eq_true rfl) rfl dL_law_2175 (fun y9 H locs hy9 G => ?_)
  subst hy9
  refine lv_pop C.1 C.2.1 dL_law_2178 rfl ?_
  refine lv_aload_n C.1 C.2.1 dL_law_2179 rfl (lv_at hl 2 rfl) ?_
  refine zd_M (as := []) C Y G (c_X5_isSound l D cJ u v _ _ _ _ _) ml_L_324 rfl ⟨Nat.le_of_ble_eq_true rfl, Nat.le_of_ble_eq_true rfl⟩ ⟨by show cells + 0 + 0 ≤ 665281; omega, by show slots + 0 + 0 ≤ 7105636; omega⟩ hl (Nat.le_of_ble_eq_true rfl) rfl dL_law_2180 (fun y9 H locs hy9 G => ?_)
  subst hy9
  refine lv_pop C.1 C.2.1 dL_law_2183 rfl ?_
  refine lv_goto (tgt := 2200) C.1 C.2.1 dL_law_2184 (by decide) ?_
  exact kk _ _ _ _ _ _ _ _ _ _ _ _ G (by omega) (by omega) (lv_sub hl [0, 1, 2, 3, 4] rfl)
set_option maxHeartbeats 4000000 in
set_option maxRecDepth 100000 in
theorem lk_46 (hlq : l.stackTraces = false) (C : CallFix p m c0 cL_law 7 s args T0 RL) (Z : zLw D cB t N g s) (Y : zAd o a u v w s) {c : Nat → Nat} {ac re kn : Int32} {th : Int} {n : Int64} {sv : Value} {H : Heap} {locs : List Loc} {ls : Array Slot} {cells slots : Nat} (G : zG D cJ o a u v w c [.int ac, .int re, .int kn] c [.int (iZ th), .int ac, .int re, .int kn] n sv s H locs) (x : Int) (hx : 0 ≤ x ∧ x + 5 ≤ (N : Int)) (hf : cells + 150 ≤ 665281 ∧ slots + 75000 ≤ 7105636) (hl : lv_has ls 7 [(0, .ref t), (1, .ref o), (2, .ref u), (3, .ref w), (4, .int (iZ (x)))])
    (kk : zNx p l e s m args below meth c0 D cJ t o a u v w x cells slots Qw 2200) : W p l e room_1 s m args below meth c0 H locs cells slots Qw (F0 m 2187 ls []) := by
  have hc := G.1.2.2.2
  refine lv_aload_n C.1 C.2.1 dL_law_2187 rfl (lv_at hl 1 rfl) ?_
  refine zd_X (as := []) C Y G (c_X3_digest l D cJ o a _ _ _ _) ml_L_325 rfl ⟨Nat.le_of_ble_eq_true rfl, Nat.le_of_ble_eq_true rfl⟩ ⟨by show cells + 0 + 0 ≤ 665281; omega, by show slots + 0 + 0 ≤ 7105636; omega⟩ hl (Nat.le_of_ble_eq_true rfl) rfl dL_law_2188 (fun y9 H locs hy9 G => ?_)
  subst hy9
  refine lv_pop2_2 C.1 C.2.1 dL_law_2191 rfl ?_
  refine lv_aload_n C.1 C.2.1 dL_law_2192 rfl (lv_at hl 2 rfl) ?_
  refine zd_M (as := []) C Y G (c_X5_digest l D cJ u v _ _ _ _ _) ml_L_329 rfl ⟨Nat.le_of_ble_eq_true rfl, Nat.le_of_ble_eq_true rfl⟩ ⟨by show cells + 0 + 0 ≤ 665281; omega, by show slots + 0 + 0 ≤ 7105636; omega⟩ hl (Nat.le_of_ble_eq_true rfl) rfl dL_law_2193 (fun y9 H locs hy9 G => ?_)
  subst hy9
  refine lv_pop2_2 C.1 C.2.1 dL_law_2196 rfl ?_
  refine lv_goto (tgt := 2200) C.1 C.2.1 dL_law_2197 (by decide) ?_
  exact kk _ _ _ _ _ _ _ _ _ _ _ _ G (by omega) (by omega) (lv_sub hl [0, 1, 2, 3, 4] rfl)
end LC
