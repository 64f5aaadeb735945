/-! ===== the law's world: both objects and the notebook ===== -/
section XA
def zlA (s : State) : Nat → Prop := fun q => s.heap.size ≤ q
/-- what the law has at its start, that stays -/
def zLw (D : va_G) (cB : ClassId) (t N : Nat) (g : Nat → Int) (s : State) : Prop :=
  zE (zlA s) s s.heap ∧ zCt s ∧ zV (zlA s) s s.heap ∧ va_K D vwCl [(cB, .byte)] s ∧ (va_X t N (fun j => iZ (g j)) s s.heap ∧ t < s.heap.size) ∧ (∀ j, -2147483648 ≤ g j ∧ g j ≤ 2147483647) ∧ N ≤ 320
def zAd (o a u v w : Nat) (s : State) : Prop :=
  (w ≠ o ∧ w ≠ a) ∧ (u ≠ o ∧ u ≠ a ∧ u ≠ w) ∧ (v ≠ o ∧ v ≠ a ∧ v ≠ w) ∧ s.heap.size ≤ o ∧ s.heap.size ≤ a ∧ s.heap.size ≤ u ∧ s.heap.size ≤ v ∧ s.heap.size ≤ w
def zG (D : va_G) (cJ : ClassId) (o a u v w : Nat) (c : Nat → Nat) (fs : List Value) (cM : Nat → Nat) (fsM : List Value) (n : Int64) (sv : Value) (s : State) (H : Heap) (locs : List Loc) : Prop :=
  AtO D 2 cJ o a c fs s H ∧ AtO D 4 cJ u v cM fsM s H ∧ AtW D w n sv s H ∧ va_S (zlA s) s.heap H locs
end XA
section XB
variable {p : Program} {l : Launch} {e : Env} {R : Room} {s : State} {m : MethodId} {args : Array Value} {below : List Frame} {meth : Method} {c : Code} {H : Heap} {locs : List Loc} {cells slots : Nat} {Q : State → Prop}
variable {cc : ByteArray} {pc nL : Nat} {ls : Array Slot} {rest st : List Value} {own : String} {lv : List (Nat × Value)} {D : va_G} {cB cJ : ClassId} {t N : Nat} {g : Nat → Int} {o a u v w : Nat} {ce cM : Nat → Nat} {fs fsM : List Value} {n : Int64} {sv : Value}
theorem zG.li (Z : zLw D cB t N g s) (Y : zAd o a u v w s) (G : zG D cJ o a u v w ce fs cM fsM n sv s H locs) : zLi D cJ o a w ce fs n sv s H :=
  ⟨G.1, G.2.2.1, Y.1, (Z.1.kept G.2.2.2.2.1).narrow (fun q h => by rcases h with h | h | h; exact h ▸ Y.2.2.2.2.2.2.2; exact h ▸ Y.2.2.2.1; exact h ▸ Y.2.2.2.2.1), Z.2.1⟩
theorem zG.A (Y : zAd o a u v w s) (G : zG D cJ o a u v w ce fs cM fsM n sv s H locs) : ∀ q, zFw o a w H.size q → zlA s q :=
  fun q h => by rcases h with h | h | h | h; exact h ▸ Y.2.2.2.2.2.2.2; exact h ▸ Y.2.2.2.1; exact h ▸ Y.2.2.2.2.1; exact Nat.le_trans G.2.2.2.1 h
theorem zG.A2 (Y : zAd o a u v w s) (G : zG D cJ o a u v w ce fs cM fsM n sv s H locs) : ∀ q, zF u v H.size q → zlA s q :=
  fun q h => by rcases h with h | h | h; exact h ▸ Y.2.2.2.2.2.1; exact h ▸ Y.2.2.2.2.2.2.1; exact Nat.le_trans G.2.2.2.1 h
theorem zG.V {A : Nat → Prop} (Z : zLw D cB t N g s) (G : zG D cJ o a u v w ce fs cM fsM n sv s H locs) (hA : ∀ q, A q → zlA s q) : zV A s H := (Z.2.2.1.kept G.2.2.2.2.1).nar (fun q _ h => hA q h)
/-- a wrapper is called -/
theorem zd_W (C : CallFix p m c cc nL s args T0 own) (Z : zLw D cB t N g s) (Y : zAd o a u v w s) (G : zG D cJ o a u v w ce fs cM fsM n sv s H locs) {y : MethodName} {fr need mc ms idx : Nat} {as : List Value} {r : Int} {c2 : Nat → Nat} {fs2 : List Value} {n2 : Int64} {sv2 : Value} (hM : zL l y fr need mc ms D cJ o a w as ce fs n sv r c2 fs2 n2 sv2) (hG : Cond.methodLink own idx y ∈ lw_tbl)
    (hR : fr + 1 ≤ R.frames ∧ need ≤ R.locals) (hf : cells + mc ≤ R.cells ∧ slots + ms ≤ R.slots) (hl : lv_has ls nL lv) (hcat : (rest.map fun v => v.category).sum ≤ 8) (hst : st = as.reverse ++ rest) (d : decode cc pc = .ok (.invokestatic idx, 3))
    (k : ∀ H1 locs1, zG D cJ o a u v w c2 fs2 cM fsM n2 sv2 s H1 locs1 → W p l e R s m args below meth c H1 locs1 (cells + mc) (slots + ms) Q (F0 m (pc + 3) ls (.int (iZ r) :: rest))) : W p l e R s m args below meth c H locs cells slots Q (F0 m pc ls st) := by
  have hlt := G.2.1.lt
  exact zl_call C (G.li Z Y) G.2.2.2 (G.A Y) hM hG hR hf hl hcat hst d (fun H1 locs1 hLi hS hke _ => k H1 locs1 ⟨hLi.1, G.2.1.kept (hke u hlt.1 (fun z => by rcases z with z | z | z; exact Y.2.1.2.2 z; exact Y.2.1.1 z; exact Y.2.1.2.1 z)) (hke v hlt.2 (fun z => by rcases z with z | z | z; exact Y.2.2.1.2.2 z; exact Y.2.2.1.1 z; exact Y.2.2.1.2.1 z)), hLi.2.1, hS⟩)
theorem zd_WV (C : CallFix p m c cc nL s args T0 own) (Z : zLw D cB t N g s) (Y : zAd o a u v w s) (G : zG D cJ o a u v w ce fs cM fsM n sv s H locs) {y : MethodName} {fr need mc ms idx : Nat} {as : List Value} {r : Int} {c2 : Nat → Nat} {fs2 : List Value} {n2 : Int64} (hM : zLV l y fr need mc ms D cB cJ o a w as ce fs n sv r c2 fs2 n2) (hG : Cond.methodLink own idx y ∈ lw_tbl)
    (hR : fr + 1 ≤ R.frames ∧ need ≤ R.locals) (hf : cells + mc ≤ R.cells ∧ slots + ms ≤ R.slots) (hl : lv_has ls nL lv) (hcat : (rest.map fun v => v.category).sum ≤ 8) (hst : st = as.reverse ++ rest) (d : decode cc pc = .ok (.invokestatic idx, 3))
    (k : ∀ sv2 H1 locs1, zG D cJ o a u v w c2 fs2 cM fsM n2 sv2 s H1 locs1 → W p l e R s m args below meth c H1 locs1 (cells + mc) (slots + ms) Q (F0 m (pc + 3) ls (.int (iZ r) :: rest))) : W p l e R s m args below meth c H locs cells slots Q (F0 m pc ls st) := by
  have hlt := G.2.1.lt
  exact zlV_call C ⟨G.li Z Y, Z.2.2.2.1, G.V Z (fun q h => by rcases h with h | h | h; exact h ▸ Y.2.2.2.2.2.2.2; exact h ▸ Y.2.2.2.1; exact h ▸ Y.2.2.2.2.1)⟩ G.2.2.2 (G.A Y) hM hG hR hf hl hcat hst d (fun sv2 H1 locs1 hLi hS hke _ => k sv2 H1 locs1 ⟨hLi.1, G.2.1.kept (hke u hlt.1 (fun z => by rcases z with z | z | z; exact Y.2.1.2.2 z; exact Y.2.1.1 z; exact Y.2.1.2.1 z)) (hke v hlt.2 (fun z => by rcases z with z | z | z; exact Y.2.2.1.2.2 z; exact Y.2.2.1.1 z; exact Y.2.2.1.2.1 z)), hLi.2.1, hS⟩)
/-- a method of the model is called -/
theorem zd_M (C : CallFix p m c cc nL s args T0 own) (Y : zAd o a u v w s) (G : zG D cJ o a u v w ce fs cM fsM n sv s H locs) {y : MethodName} {fr need mc ms idx : Nat} {as : List Value} {rv : Option Value → Prop} {c2 : Nat → Nat} {fs2 : List Value} {T : u_T} {Nf : Nat} (hM : zA l y fr need mc ms D 4 cJ u v as cM fsM rv c2 fs2) (hG : Cond.methodLink own idx y ∈ lw_tbl) (hcl : vwCl[4]? = some (y.cls, T, Nf))
    (hR : fr + 1 ≤ R.frames ∧ need ≤ R.locals) (hf : cells + mc ≤ R.cells ∧ slots + ms ≤ R.slots) (hl : lv_has ls nL lv) (hcat : (rest.map fun v => v.category).sum ≤ 8) (hst : st = as.reverse ++ .ref u :: rest) (d : decode cc pc = .ok (.invokevirtual idx, 3))
    (k : ∀ x H1 locs1, rv x → zG D cJ o a u v w ce fs c2 fs2 n sv s H1 locs1 → W p l e R s m args below meth c H1 locs1 (cells + mc) (slots + ms) Q (F0 m (pc + 3) ls (x.toList ++ rest))) : W p l e R s m args below meth c H locs cells slots Q (F0 m pc ls st) := by
  have hlt := G.1.lt
  exact zg_call C G.2.1 G.2.2.2 (G.A2 Y) hM hG hcl hR hf hl hcat hst d (fun x H1 locs1 hx hAt hS hke _ => k x H1 locs1 hx ⟨G.1.kept (hke o hlt.1 (fun z => by rcases z with z | z; exact Y.2.1.1 z.symm; exact Y.2.2.1.1 z.symm)) (hke a hlt.2 (fun z => by rcases z with z | z; exact Y.2.1.2.1 z.symm; exact Y.2.2.1.2.1 z.symm)), hAt, G.2.2.1.kept (hke w G.2.2.1.lt (fun z => by rcases z with z | z; exact Y.2.1.2.2 z.symm; exact Y.2.2.1.2.2 z.symm)), hS⟩)
theorem zd_MV (C : CallFix p m c cc nL s args T0 own) (Z : zLw D cB t N g s) (Y : zAd o a u v w s) (G : zG D cJ o a u v w ce fs cM fsM n sv s H locs) {y : MethodName} {fr need mc ms idx : Nat} {as : List Value} {rv : Option Value → Prop} {c2 : Nat → Nat} {fs2 : List Value} {T : u_T} {Nf : Nat} (hM : zAV l y fr need mc ms D cB 4 cJ u v as cM fsM rv c2 fs2) (hG : Cond.methodLink own idx y ∈ lw_tbl) (hcl : vwCl[4]? = some (y.cls, T, Nf))
    (hR : fr + 1 ≤ R.frames ∧ need ≤ R.locals) (hf : cells + mc ≤ R.cells ∧ slots + ms ≤ R.slots) (hl : lv_has ls nL lv) (hcat : (rest.map fun v => v.category).sum ≤ 8) (hst : st = as.reverse ++ .ref u :: rest) (d : decode cc pc = .ok (.invokevirtual idx, 3))
    (k : ∀ x H1 locs1, rv x → zG D cJ o a u v w ce fs c2 fs2 n sv s H1 locs1 → W p l e R s m args below meth c H1 locs1 (cells + mc) (slots + ms) Q (F0 m (pc + 3) ls (x.toList ++ rest))) : W p l e R s m args below meth c H locs cells slots Q (F0 m pc ls st) := by
  have hlt := G.1.lt
  exact zgV_call C G.2.1 Z.2.2.2.1 (G.V Z (fun q h => by rcases h with h | h; exact h ▸ Y.2.2.2.2.2.1; exact h ▸ Y.2.2.2.2.2.2.1)) G.2.2.2 (G.A2 Y) hM hG hcl hR hf hl hcat hst d (fun x H1 locs1 hx hAt hS hke _ => k x H1 locs1 hx ⟨G.1.kept (hke o hlt.1 (fun z => by rcases z with z | z; exact Y.2.1.1 z.symm; exact Y.2.2.1.1 z.symm)) (hke a hlt.2 (fun z => by rcases z with z | z; exact Y.2.1.2.1 z.symm; exact Y.2.2.1.2.1 z.symm)), hAt, G.2.2.1.kept (hke w G.2.2.1.lt (fun z => by rcases z with z | z; exact Y.2.1.2.2 z.symm; exact Y.2.2.1.2.2 z.symm)), hS⟩)
/-- a method of the class is called directly -/
theorem zd_X (C : CallFix p m c cc nL s args T0 own) (Y : zAd o a u v w s) (G : zG D cJ o a u v w ce fs cM fsM n sv s H locs) {y : MethodName} {fr need mc ms idx : Nat} {as : List Value} {rv : Option Value → Prop} {c2 : Nat → Nat} {fs2 : List Value} {T : u_T} {Nf : Nat} (hM : zA l y fr need mc ms D 2 cJ o a as ce fs rv c2 fs2) (hG : Cond.methodLink own idx y ∈ lw_tbl) (hcl : vwCl[2]? = some (y.cls, T, Nf))
    (hR : fr + 1 ≤ R.frames ∧ need ≤ R.locals) (hf : cells + mc ≤ R.cells ∧ slots + ms ≤ R.slots) (hl : lv_has ls nL lv) (hcat : (rest.map fun v => v.category).sum ≤ 8) (hst : st = as.reverse ++ .ref o :: rest) (d : decode cc pc = .ok (.invokevirtual idx, 3))
    (k : ∀ x H1 locs1, rv x → zG D cJ o a u v w c2 fs2 cM fsM n sv s H1 locs1 → W p l e R s m args below meth c H1 locs1 (cells + mc) (slots + ms) Q (F0 m (pc + 3) ls (x.toList ++ rest))) : W p l e R s m args below meth c H locs cells slots Q (F0 m pc ls st) := by
  have hlt := G.2.1.lt
  exact zg_call C G.1 G.2.2.2 (fun q h => by rcases h with h | h | h; exact h ▸ Y.2.2.2.1; exact h ▸ Y.2.2.2.2.1; exact Nat.le_trans G.2.2.2.1 h) hM hG hcl hR hf hl hcat hst d (fun x H1 locs1 hx hAt hS hke _ => k x H1 locs1 hx ⟨hAt, G.2.1.kept (hke u hlt.1 (fun z => by rcases z with z | z; exact Y.2.1.1 z; exact Y.2.1.2.1 z)) (hke v hlt.2 (fun z => by rcases z with z | z; exact Y.2.2.1.1 z; exact Y.2.2.1.2.1 z)), G.2.2.1.kept (hke w G.2.2.1.lt (fun z => by rcases z with z | z; exact Y.1.1 z; exact Y.1.2 z)), hS⟩)
/-- a number of the script -/
theorem zd_ld (C : CallFix p m c cc nL s args T0 own) (Z : zLw D cB t N g s) (G : zG D cJ o a u v w ce fs cM fsM n sv s H locs) {z : Int} (x : Int) (j : Nat) (hx : g j = x) (hz : z = (j : Int)) (hj : j < N) (d : decode cc pc = .ok (.iaload, 1))
    (k : W p l e R s m args below meth c H locs cells slots Q (F0 m (pc + 1) ls (.int (iZ x) :: rest))) : W p l e R s m args below meth c H locs cells slots Q (F0 m pc ls (.int (iZ z) :: .ref t :: rest)) := by
  subst hz
  subst hx
  have hN := Z.2.2.2.2.2.2
  refine va_sld C.1 C.2.1 Z.2.2.2.2.1.1 Z.2.2.2.2.1.2 (fun h => absurd (show s.heap.size ≤ t from h) (Nat.not_le.mpr Z.2.2.2.2.1.2)) G.2.2.2 (iZ_in (by omega) (by omega)) d ?_
  have e1 : (iZ (j : Int)).toNatClampNeg = j := by rw [iZ_clamp (by omega)]; rfl
  rw [e1]
  exact k
theorem zd_len (C : CallFix p m c cc nL s args T0 own) (Z : zLw D cB t N g s) (G : zG D cJ o a u v w ce fs cM fsM n sv s H locs) (d : decode cc pc = .ok (.arraylength, 1))
    (k : W p l e R s m args below meth c H locs cells slots Q (F0 m (pc + 1) ls (.int (iZ (N : Int)) :: rest))) : W p l e R s m args below meth c H locs cells slots Q (F0 m pc ls (.ref t :: rest)) := by
  refine va_slen C.1 C.2.1 Z.2.2.2.2.1.1 Z.2.2.2.2.1.2 (fun h => absurd (show s.heap.size ≤ t from h) (Nat.not_le.mpr Z.2.2.2.2.1.2)) G.2.2.2 d ?_
  rw [show Int32.ofNat N = iZ (N : Int) from (iZ_nI N).symm]
  exact k
/-- a number that isn't 0, as a truth value -/
theorem zd_nz (C : CallFix p m c cc nL s args T0 own) {z : Int} (hz : -2147483648 ≤ z ∧ z ≤ 2147483647) (d1 : decode cc pc = .ok (.ifCond .eq 7, 3)) (d2 : decode cc (pc + 3) = .ok (.iconst 1, 1)) (d3 : decode cc (pc + 4) = .ok (.goto 4, 3)) (d4 : decode cc (pc + 7) = .ok (.iconst 0, 1))
    (k : W p l e R s m args below meth c H locs cells slots Q (F0 m (pc + 8) ls (.int (iZ (zB (decide (z ≠ 0)))) :: rest))) : W p l e R s m args below meth c H locs cells slots Q (F0 m pc ls (.int (iZ z) :: rest)) := by
  by_cases h : z = 0
  · rw [decide_eq_false (not_not_intro h)] at k
    exact z_if_eq (tgt := pc + 7) C hz d1 (by omega) (fun _ => z_iconst C d4 k) (fun g => absurd h g)
  · rw [decide_eq_true h] at k
    exact z_if_eq (tgt := pc + 7) C hz d1 (by omega) (fun g => absurd g h) (fun _ => z_iconst C d2 (lv_goto (tgt := pc + 8) C.1 C.2.1 d3 (by omega) k))
/-- the case's number: six bits of it -/
theorem zd_63 (C : CallFix p m c cc nL s args T0 own) {x : Int} (d : decode cc pc = .ok (.iand, 1)) (k : ∀ z : Int, 0 ≤ z ∧ z ≤ 63 → W p l e R s m args below meth c H locs cells slots Q (F0 m (pc + 1) ls (.int (iZ z) :: rest))) : W p l e R s m args below meth c H locs cells slots Q (F0 m pc ls (.int (iZ 63) :: .int (iZ x) :: rest)) := by
  refine lv_iand C.1 C.2.1 d ?_
  obtain ⟨j, h1, h2⟩ := pk_andE (iZ x) (m := iZ 63) 6 (by decide)
  rw [h2, ← iZ_nI]
  exact k j ⟨by omega, by omega⟩
/-- the notebook's number is read -/
theorem zd_getn (C : CallFix p m c cc nL s args T0 RL) (Z : zLw D cB t N g s) (G : zG D cJ o a u v w ce fs cM fsM n sv s H locs) (d : decode cc pc = .ok (.getfield 13, 3))
    (k : W p l e R s m args below meth c H locs cells slots Q (F0 m (pc + 3) ls (.long n :: rest))) : W p l e R s m args below meth c H locs cells slots Q (F0 m pc ls (.ref w :: rest)) :=
  va_getN (D := D) (cl := vwCl) (ws := wOut w n sv) (tys := []) (ref := "CarryfreeLaw$Out") (host := RL) C.1 C.2.1 C.2.2.2.2 inX4 C.2.2.2.1 G.2.2.1.2.1 G.2.2.1.1 0 rfl (ci := 3) rfl 0 (by decide) (Z.2.1.2.2.2.1.use rfl) (fun x h => h) rfl d k
/-- two longs that are one -/
theorem zd_lceq (C : CallFix p m c cc nL s args T0 own) {y z : Int64} {off : Int} {tgt : Nat} (h : z = y) (d1 : decode cc pc = .ok (.lcmp, 1)) (d : decode cc (pc + 1) = .ok (.ifCond .eq off, 3)) (ht : ((pc + 1 : Nat) : Int) + off = (tgt : Int)) (k : W p l e R s m args below meth c H locs cells slots Q (F0 m tgt ls rest)) : W p l e R s m args below meth c H locs cells slots Q (F0 m pc ls (.long y :: .long z :: rest)) := by
  subst h
  refine W.lcmp C.1 C.2.1 d1 ?_
  refine lv_if_eq C.1 C.2.1 d ht (fun _ => k) (fun g => absurd ?_ g)
  unfold lg_cmp
  rw [if_neg (Int64.lt_irrefl), if_pos rfl]
end XB
