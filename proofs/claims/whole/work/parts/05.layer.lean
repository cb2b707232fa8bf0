/-! THE LAYER: the cells that are made since a base stand in one list, by their places; a judgement z_R over it, a contract z_M over it -/
abbrev z_G : Type := va_G × (Nat → ClassId)
/-- the array classes that occur -/
def z_Ty (Z : Nat → ClassId) : List (ClassId × FieldType) := [(Z 0, .int), (Z 1, .long), (Z 2, .boolean), (Z 3, .object "PageSlabs$Slab"), (Z 4, .object "PageSlabs$Cache")]
/-- the words that every contract takes: all of the tables' that a caller may hand on -/
def z_W : List Cond := lw_tbl.filter goodWord
/-- the links between nest mates -/
def z_N : List Cond := [.methodLinkNest "PageSlabs" 11 yX2_init "PageSlabs", .methodLinkNest "PageSlabs" 18 yX0_init "PageSlabs", .methodLinkNest "PageSlabs" 216 yX3_init "PageSlabs", .methodLinkNest "PageSlabs$Blocks" 43 yX4_isPage "PageSlabs"]
def z_K (G : z_G) (U : State) : Prop := va_K G.1 vwCl (z_Ty G.2) U ∧ (∀ w ∈ z_N, va_Nw w U) ∧ va_AO "PageSlabs$Slab" U ∧ va_AO "PageSlabs$Cache" U
/-- the heap from base on -/
def z_H (G : z_G) (base : Nat) (hp : List va_E) (H : Heap) : Prop := H.size = base + hp.length ∧ ∀ (i : Nat) (e : va_E), hp[i]? = some e → va_at G.1 vwCl (base + i, e) H
def z_Qc (G : z_G) (base : Nat) (post : Option Value → List va_E → Prop) : Array Value → State → Outcome → State → Prop := fun _ st oc t => (∃ (v : Option Value) (hp' : List va_E), oc = .returned v ∧ post v hp' ∧ z_H G base hp' t.heap) ∧ va_F (fun q => base ≤ q) st t
def z_Pc (G : z_G) (base : Nat) (as : List Value) (hp : List va_E) : Array Value → State → Prop := va_Pc as (fun U => z_H G base hp U.heap ∧ z_K G U)
def z_rm (d mc ms : Nat) : Room := { frames := d, cells := mc, slots := ms, locals := 40 * d }
/-- a contract: at these arguments, over this heap, y returns, with post of its answer and the heap behind it -/
def z_M (l : Launch) (G : z_G) (base : Nat) (y : MethodName) (bc : ByteArray) (mL : Nat) (rt : Option FieldType) (d mc ms : Nat) (as : List Value) (hp : List va_E) (post : Option Value → List va_E → Prop) : Prop :=
  Met l y (Cond.code y bc mL rt :: z_W) (z_rm d mc ms) (z_Pc G base as hp) (z_Qc G base post) mc ms (fun q => base ≤ q)
theorem z_W_good : ∀ w ∈ z_W, (w.onTables && w.keeps) = true ∨ ∃ ty, w = .arrayClass ty := fun w h => good_of_word (List.mem_filter.mp h).2
theorem z_in {w : Cond} (h : w ∈ lw_tbl) (hg : goodWord w = true) : w ∈ z_W := List.mem_filter.mpr ⟨h, hg⟩
theorem z_H.set {G : z_G} {base : Nat} {hp : List va_E} {H H1 : Heap} {i : Nat} {e : va_E} (h : z_H G base hp H) (hz : H1.size = H.size) (ho : ∀ q, q ≠ base + i → H1[q]? = H[q]?) (he : va_at G.1 vwCl (base + i, e) H1) : z_H G base (hp.set i e) H1 := by
  refine ⟨by rw [hz, h.1, List.length_set], fun j e' hj => ?_⟩
  by_cases hij : j = i
  · subst hij
    by_cases hl : j < hp.length
    · rw [List.getElem?_set_self hl] at hj
      cases hj
      exact he
    · rw [List.getElem?_eq_none (by rw [List.length_set]; omega)] at hj
      cases hj
  · rw [List.getElem?_set_ne (fun q => hij q.symm)] at hj
    exact (h.2 j e' hj).kept (ho _ (by show base + j ≠ base + i; omega))
theorem z_H.push {G : z_G} {base : Nat} {hp : List va_E} {H H1 : Heap} {e : va_E} (h : z_H G base hp H) (hz : H1.size = H.size + 1) (ho : ∀ q, q < H.size → H1[q]? = H[q]?) (he : va_at G.1 vwCl (base + hp.length, e) H1) : z_H G base (hp ++ [e]) H1 := by
  refine ⟨by rw [hz, h.1, List.length_append, List.length_singleton]; omega, fun j e' hj => ?_⟩
  by_cases hl : j < hp.length
  · rw [List.getElem?_append_left hl] at hj
    exact (h.2 j e' hj).kept (ho _ (by show base + j < H.size; rw [h.1]; omega))
  · rw [List.getElem?_append_right (by omega)] at hj
    have h2 : j - hp.length = 0 := by
      rcases Nat.eq_zero_or_pos (j - hp.length) with q | q
      · exact q
      · rw [List.getElem?_eq_none (by rw [List.length_singleton]; omega)] at hj
        cases hj
    rw [h2] at hj
    cases hj
    rw [show j = hp.length by omega]
    exact he
/-- what holds throughout a method -/
def z_C (p : Program) (s : State) (m : MethodId) (args : Array Value) (meth : Method) (c : Code) (cc : ByteArray) (nL : Nat) (own : String) (G : z_G) (base : Nat) : Prop :=
  p.tables.exec = Jvm.exec ∧ c.code = cc ∧ c.maxLocals = nL ∧ s.vm.findClass own = some m.cls ∧ (∀ w ∈ z_W, w.before args s = true) ∧ z_K G s ∧ meth.locks = false ∧ base ≤ s.heap.size
def z_R (p : Program) (l : Launch) (e : Env) (R : Room) (s : State) (m : MethodId) (args : Array Value) (below : List Frame) (meth : Method) (c : Code) (Q : State → Prop) (G : z_G) (base nL cells slots pc : Nat) (lv : List (Nat × Value)) (st : List Value) (hp : List va_E) : Prop :=
  ∀ (H : Heap) (locs : List Loc) (ls : Array Slot), z_H G base hp H → va_S (fun q => base ≤ q) s.heap H locs → lv_has ls nL lv → W p l e R s m args below meth c H locs cells slots Q (F0 m pc ls st)
section ZR
variable {p : Program} {l : Launch} {e : Env} {R : Room} {s : State} {m : MethodId} {args : Array Value} {below : List Frame} {meth : Method} {c : Code} {Q : State → Prop} {cc : ByteArray} {own : String} {G : z_G} {base nL cells slots pc : Nat} {lv : List (Nat × Value)} {st : List Value} {hp : List va_E}
theorem z_lv {lv' : List (Nat × Value)} (ks : List Nat) (h : lv_pick lv ks = lv') (k : z_R p l e R s m args below meth c Q G base nL cells slots pc lv' st hp) : z_R p l e R s m args below meth c Q G base nL cells slots pc lv st hp :=
  fun H locs ls h1 h2 h3 => k H locs ls h1 h2 (lv_sub h3 ks h)
theorem z_hp {hp' : List va_E} (h : hp = hp') (k : z_R p l e R s m args below meth c Q G base nL cells slots pc lv st hp') : z_R p l e R s m args below meth c Q G base nL cells slots pc lv st hp := h ▸ k
theorem z_st {st' : List Value} (h : st = st') (k : z_R p l e R s m args below meth c Q G base nL cells slots pc lv st' hp) : z_R p l e R s m args below meth c Q G base nL cells slots pc lv st hp := h ▸ k
theorem z_wid {k n : Nat} (h1 : cells ≤ k) (h2 : slots ≤ n) (kk : z_R p l e R s m args below meth c Q G base nL k n pc lv st hp) : z_R p l e R s m args below meth c Q G base nL cells slots pc lv st hp :=
  fun H locs ls a1 a2 a3 => W.widen h1 h2 (kk H locs ls a1 a2 a3)
theorem z_topi {x : Int32} (k : ∀ y : Int32, y = x → z_R p l e R s m args below meth c Q G base nL cells slots pc lv (.int y :: st) hp) : z_R p l e R s m args below meth c Q G base nL cells slots pc lv (.int x :: st) hp := k x rfl
theorem z_topl {x : Int64} (k : ∀ y : Int64, y = x → z_R p l e R s m args below meth c Q G base nL cells slots pc lv (.long y :: st) hp) : z_R p l e R s m args below meth c Q G base nL cells slots pc lv (.long x :: st) hp := k x rfl
theorem z_iconst (C : z_C p s m args meth c cc nL own G base) {n : Int} {v : Int32} (hd : decode cc pc = .ok (.iconst n, 1)) (hv : Int32.ofInt n = v) (k : z_R p l e R s m args below meth c Q G base nL cells slots (pc + 1) lv (.int v :: st) hp) : z_R p l e R s m args below meth c Q G base nL cells slots pc lv st hp :=
  fun H locs ls h1 h2 h3 => lv_iconst C.1 C.2.1 hd hv (k H locs ls h1 h2 h3)
theorem z_bipush (C : z_C p s m args meth c cc nL own G base) {n : Int} {v : Int32} (hd : decode cc pc = .ok (.bipush n, 2)) (hv : (Int8.ofInt n).toInt32 = v) (k : z_R p l e R s m args below meth c Q G base nL cells slots (pc + 2) lv (.int v :: st) hp) : z_R p l e R s m args below meth c Q G base nL cells slots pc lv st hp :=
  fun H locs ls h1 h2 h3 => lv_bipush C.1 C.2.1 hd hv (k H locs ls h1 h2 h3)
theorem z_sipush (C : z_C p s m args meth c cc nL own G base) {n : Int} {v : Int32} (hd : decode cc pc = .ok (.sipush n, 3)) (hv : (Int16.ofInt n).toInt32 = v) (k : z_R p l e R s m args below meth c Q G base nL cells slots (pc + 3) lv (.int v :: st) hp) : z_R p l e R s m args below meth c Q G base nL cells slots pc lv st hp :=
  fun H locs ls h1 h2 h3 => lv_sipush C.1 C.2.1 hd hv (k H locs ls h1 h2 h3)
theorem z_lconst (C : z_C p s m args meth c cc nL own G base) {n : Fin 2} {v : Int64} (hd : decode cc pc = .ok (.lconst n, 1)) (hv : Int64.ofNat (n : Nat) = v) (k : z_R p l e R s m args below meth c Q G base nL cells slots (pc + 1) lv (.long v :: st) hp) : z_R p l e R s m args below meth c Q G base nL cells slots pc lv st hp :=
  fun H locs ls h1 h2 h3 => lv_lconst C.1 C.2.1 hd hv (k H locs ls h1 h2 h3)
theorem z_ldc2 (C : z_C p s m args meth c cc nL own G base) {index : Nat} {v : Int64} (hw : Cond.constantLong own index v ∈ z_W) (hd : decode cc pc = .ok (.ldc2_w index, 3)) (k : z_R p l e R s m args below meth c Q G base nL cells slots (pc + 3) lv (.long v :: st) hp) : z_R p l e R s m args below meth c Q G base nL cells slots pc lv st hp :=
  fun H locs ls h1 h2 h3 => lv_ldc2 C.1 C.2.1 C.2.2.2.1 (C.2.2.2.2.1 _ hw) hd (k H locs ls h1 h2 h3)
theorem z_null (C : z_C p s m args meth c cc nL own G base) (hd : decode cc pc = .ok (.aconst_null, 1)) (k : z_R p l e R s m args below meth c Q G base nL cells slots (pc + 1) lv (.null :: st) hp) : z_R p l e R s m args below meth c Q G base nL cells slots pc lv st hp :=
  fun H locs ls h1 h2 h3 => lv_null C.1 C.2.1 hd (k H locs ls h1 h2 h3)
theorem z_iload_n (C : z_C p s m args meth c cc nL own G base) {k : Fin 4} {i : Nat} {x : Int32} (hd : decode cc pc = .ok (.iload_n k, 1)) (hi : (k : Nat) = i) (j : Nat) (hj : lv[j]? = some (i, .int x)) (kk : z_R p l e R s m args below meth c Q G base nL cells slots (pc + 1) lv (.int x :: st) hp) : z_R p l e R s m args below meth c Q G base nL cells slots pc lv st hp :=
  fun H locs ls h1 h2 h3 => lv_iload_n C.1 C.2.1 hd hi (lv_at h3 j hj) (kk H locs ls h1 h2 h3)
theorem z_iload (C : z_C p s m args meth c cc nL own G base) {i : Nat} {x : Int32} (hd : decode cc pc = .ok (.iload i, 2)) (j : Nat) (hj : lv[j]? = some (i, .int x)) (kk : z_R p l e R s m args below meth c Q G base nL cells slots (pc + 2) lv (.int x :: st) hp) : z_R p l e R s m args below meth c Q G base nL cells slots pc lv st hp :=
  fun H locs ls h1 h2 h3 => lv_iload C.1 C.2.1 hd (lv_at h3 j hj) (kk H locs ls h1 h2 h3)
theorem z_lload (C : z_C p s m args meth c cc nL own G base) {i : Nat} {x : Int64} (hd : decode cc pc = .ok (.lload i, 2)) (j : Nat) (hj : lv[j]? = some (i, .long x)) (kk : z_R p l e R s m args below meth c Q G base nL cells slots (pc + 2) lv (.long x :: st) hp) : z_R p l e R s m args below meth c Q G base nL cells slots pc lv st hp :=
  fun H locs ls h1 h2 h3 => lv_lload C.1 C.2.1 hd (lv_at h3 j hj) (kk H locs ls h1 h2 h3)
theorem z_aload_n (C : z_C p s m args meth c cc nL own G base) {k : Fin 4} {i x : Nat} (hd : decode cc pc = .ok (.aload_n k, 1)) (hi : (k : Nat) = i) (j : Nat) (hj : lv[j]? = some (i, .ref x)) (kk : z_R p l e R s m args below meth c Q G base nL cells slots (pc + 1) lv (.ref x :: st) hp) : z_R p l e R s m args below meth c Q G base nL cells slots pc lv st hp :=
  fun H locs ls h1 h2 h3 => lv_aload_n C.1 C.2.1 hd hi (lv_at h3 j hj) (kk H locs ls h1 h2 h3)
theorem z_aload (C : z_C p s m args meth c cc nL own G base) {i x : Nat} (hd : decode cc pc = .ok (.aload i, 2)) (j : Nat) (hj : lv[j]? = some (i, .ref x)) (kk : z_R p l e R s m args below meth c Q G base nL cells slots (pc + 2) lv (.ref x :: st) hp) : z_R p l e R s m args below meth c Q G base nL cells slots pc lv st hp :=
  fun H locs ls h1 h2 h3 => lv_aload C.1 C.2.1 hd (lv_at h3 j hj) (kk H locs ls h1 h2 h3)
theorem z_aload_nq (C : z_C p s m args meth c cc nL own G base) {k : Fin 4} {i : Nat} {x : Option Nat} (hd : decode cc pc = .ok (.aload_n k, 1)) (hi : (k : Nat) = i) (j : Nat) (hj : lv[j]? = some (i, va_rf x)) (kk : z_R p l e R s m args below meth c Q G base nL cells slots (pc + 1) lv (va_rf x :: st) hp) : z_R p l e R s m args below meth c Q G base nL cells slots pc lv st hp :=
  fun H locs ls h1 h2 h3 => by
    cases x with
    | none => exact lv_aload_nN C.1 C.2.1 hd hi (lv_at h3 j hj) (kk H locs ls h1 h2 h3)
    | some x => exact lv_aload_n C.1 C.2.1 hd hi (lv_at h3 j hj) (kk H locs ls h1 h2 h3)
theorem z_aloadq (C : z_C p s m args meth c cc nL own G base) {i : Nat} {x : Option Nat} (hd : decode cc pc = .ok (.aload i, 2)) (j : Nat) (hj : lv[j]? = some (i, va_rf x)) (kk : z_R p l e R s m args below meth c Q G base nL cells slots (pc + 2) lv (va_rf x :: st) hp) : z_R p l e R s m args below meth c Q G base nL cells slots pc lv st hp :=
  fun H locs ls h1 h2 h3 => by
    cases x with
    | none => exact lv_aloadN C.1 C.2.1 hd (lv_at h3 j hj) (kk H locs ls h1 h2 h3)
    | some x => exact lv_aload C.1 C.2.1 hd (lv_at h3 j hj) (kk H locs ls h1 h2 h3)
theorem z_istore_n (C : z_C p s m args meth c cc nL own G base) {k : Fin 4} {i : Nat} {x : Int32} {lv' : List (Nat × Value)} (hd : decode cc pc = .ok (.istore_n k, 1)) (hi : (k : Nat) = i) (hn : i < nL) (hl : (i, Value.int x) :: lv.filter (fun q => !(q.1 == i) && !(q.1 + 1 == i && q.2.category == 2)) = lv') (kk : z_R p l e R s m args below meth c Q G base nL cells slots (pc + 1) lv' st hp) : z_R p l e R s m args below meth c Q G base nL cells slots pc lv (.int x :: st) hp :=
  fun H locs _ h1 h2 h3 => lv_istore_n C.1 C.2.1 hd hi h3 hn hl (fun ls' h => kk H locs ls' h1 h2 h)
theorem z_istore (C : z_C p s m args meth c cc nL own G base) {i : Nat} {x : Int32} {lv' : List (Nat × Value)} (hd : decode cc pc = .ok (.istore i, 2)) (hn : i < nL) (hl : (i, Value.int x) :: lv.filter (fun q => !(q.1 == i) && !(q.1 + 1 == i && q.2.category == 2)) = lv') (kk : z_R p l e R s m args below meth c Q G base nL cells slots (pc + 2) lv' st hp) : z_R p l e R s m args below meth c Q G base nL cells slots pc lv (.int x :: st) hp :=
  fun H locs _ h1 h2 h3 => lv_istore C.1 C.2.1 hd h3 hn hl (fun ls' h => kk H locs ls' h1 h2 h)
theorem z_lstore (C : z_C p s m args meth c cc nL own G base) {i : Nat} {x : Int64} {lv' : List (Nat × Value)} (hd : decode cc pc = .ok (.lstore i, 2)) (hn : i + 1 < nL) (hl : (i, Value.long x) :: lv.filter (fun q => !(q.1 == i) && (!(q.1 == i + 1) && !(q.1 + 1 == i && q.2.category == 2))) = lv') (kk : z_R p l e R s m args below meth c Q G base nL cells slots (pc + 2) lv' st hp) : z_R p l e R s m args below meth c Q G base nL cells slots pc lv (.long x :: st) hp :=
  fun H locs _ h1 h2 h3 => lv_lstore C.1 C.2.1 hd h3 hn hl (fun ls' h => kk H locs ls' h1 h2 h)
theorem z_lstore_n (C : z_C p s m args meth c cc nL own G base) {k : Fin 4} {i : Nat} {x : Int64} {lv' : List (Nat × Value)} (hd : decode cc pc = .ok (.lstore_n k, 1)) (hi : (k : Nat) = i) (hn : i + 1 < nL) (hl : (i, Value.long x) :: lv.filter (fun q => !(q.1 == i) && (!(q.1 == i + 1) && !(q.1 + 1 == i && q.2.category == 2))) = lv') (kk : z_R p l e R s m args below meth c Q G base nL cells slots (pc + 1) lv' st hp) : z_R p l e R s m args below meth c Q G base nL cells slots pc lv (.long x :: st) hp :=
  fun H locs _ h1 h2 h3 => lv_lstore_n C.1 C.2.1 hd hi h3 hn hl (fun ls' h => kk H locs ls' h1 h2 h)
theorem z_astore_n (C : z_C p s m args meth c cc nL own G base) {k : Fin 4} {i x : Nat} {lv' : List (Nat × Value)} (hd : decode cc pc = .ok (.astore_n k, 1)) (hi : (k : Nat) = i) (hn : i < nL) (hl : (i, Value.ref x) :: lv.filter (fun q => !(q.1 == i) && !(q.1 + 1 == i && q.2.category == 2)) = lv') (kk : z_R p l e R s m args below meth c Q G base nL cells slots (pc + 1) lv' st hp) : z_R p l e R s m args below meth c Q G base nL cells slots pc lv (.ref x :: st) hp :=
  fun H locs _ h1 h2 h3 => lv_astore_n C.1 C.2.1 hd hi h3 hn hl (fun ls' h => kk H locs ls' h1 h2 h)
theorem z_astore (C : z_C p s m args meth c cc nL own G base) {i x : Nat} {lv' : List (Nat × Value)} (hd : decode cc pc = .ok (.astore i, 2)) (hn : i < nL) (hl : (i, Value.ref x) :: lv.filter (fun q => !(q.1 == i) && !(q.1 + 1 == i && q.2.category == 2)) = lv') (kk : z_R p l e R s m args below meth c Q G base nL cells slots (pc + 2) lv' st hp) : z_R p l e R s m args below meth c Q G base nL cells slots pc lv (.ref x :: st) hp :=
  fun H locs _ h1 h2 h3 => lv_astore C.1 C.2.1 hd h3 hn hl (fun ls' h => kk H locs ls' h1 h2 h)
theorem z_astore_nq (C : z_C p s m args meth c cc nL own G base) {k : Fin 4} {i : Nat} {x : Option Nat} {lv' : List (Nat × Value)} (hd : decode cc pc = .ok (.astore_n k, 1)) (hi : (k : Nat) = i) (hn : i < nL) (hl : (i, va_rf x) :: lv.filter (fun q => !(q.1 == i) && !(q.1 + 1 == i && q.2.category == 2)) = lv') (kk : z_R p l e R s m args below meth c Q G base nL cells slots (pc + 1) lv' st hp) : z_R p l e R s m args below meth c Q G base nL cells slots pc lv (va_rf x :: st) hp :=
  fun H locs _ h1 h2 h3 => by
    cases x with
    | none => exact lv_astore_nN C.1 C.2.1 hd hi h3 hn hl (fun ls' h => kk H locs ls' h1 h2 h)
    | some x => exact lv_astore_n C.1 C.2.1 hd hi h3 hn hl (fun ls' h => kk H locs ls' h1 h2 h)
theorem z_astoreq (C : z_C p s m args meth c cc nL own G base) {i : Nat} {x : Option Nat} {lv' : List (Nat × Value)} (hd : decode cc pc = .ok (.astore i, 2)) (hn : i < nL) (hl : (i, va_rf x) :: lv.filter (fun q => !(q.1 == i) && !(q.1 + 1 == i && q.2.category == 2)) = lv') (kk : z_R p l e R s m args below meth c Q G base nL cells slots (pc + 2) lv' st hp) : z_R p l e R s m args below meth c Q G base nL cells slots pc lv (va_rf x :: st) hp :=
  fun H locs _ h1 h2 h3 => by
    cases x with
    | none => exact lv_astoreN C.1 C.2.1 hd h3 hn hl (fun ls' h => kk H locs ls' h1 h2 h)
    | some x => exact lv_astore C.1 C.2.1 hd h3 hn hl (fun ls' h => kk H locs ls' h1 h2 h)
theorem z_iinc (C : z_C p s m args meth c cc nL own G base) {i k : Nat} {n : Int} {x v : Int32} {lv' : List (Nat × Value)} (hd : decode cc pc = .ok (.iinc i n, 3)) (hk : lv[k]? = some (i, .int x)) (hv : x + Int32.ofInt n = v) (hn : i < nL) (hl : (i, Value.int v) :: lv.filter (fun q => !(q.1 == i) && !(q.1 + 1 == i && q.2.category == 2)) = lv') (kk : z_R p l e R s m args below meth c Q G base nL cells slots (pc + 3) lv' st hp) : z_R p l e R s m args below meth c Q G base nL cells slots pc lv st hp :=
  fun H locs _ h1 h2 h3 => lv_iinc C.1 C.2.1 hd h3 hk hv hn hl (fun ls' h => kk H locs ls' h1 h2 h)
theorem z_iadd (C : z_C p s m args meth c cc nL own G base) {x y : Int32} (hd : decode cc pc = .ok (.iadd, 1)) (k : z_R p l e R s m args below meth c Q G base nL cells slots (pc + 1) lv (.int (x + y) :: st) hp) : z_R p l e R s m args below meth c Q G base nL cells slots pc lv (.int y :: .int x :: st) hp :=
  fun H locs ls h1 h2 h3 => lv_iadd C.1 C.2.1 hd (k H locs ls h1 h2 h3)
theorem z_isub (C : z_C p s m args meth c cc nL own G base) {x y : Int32} (hd : decode cc pc = .ok (.isub, 1)) (k : z_R p l e R s m args below meth c Q G base nL cells slots (pc + 1) lv (.int (x - y) :: st) hp) : z_R p l e R s m args below meth c Q G base nL cells slots pc lv (.int y :: .int x :: st) hp :=
  fun H locs ls h1 h2 h3 => lv_isub C.1 C.2.1 hd (k H locs ls h1 h2 h3)
theorem z_imul (C : z_C p s m args meth c cc nL own G base) {x y : Int32} (hd : decode cc pc = .ok (.imul, 1)) (k : z_R p l e R s m args below meth c Q G base nL cells slots (pc + 1) lv (.int (x * y) :: st) hp) : z_R p l e R s m args below meth c Q G base nL cells slots pc lv (.int y :: .int x :: st) hp :=
  fun H locs ls h1 h2 h3 => lv_imul C.1 C.2.1 hd (k H locs ls h1 h2 h3)
theorem z_iand (C : z_C p s m args meth c cc nL own G base) {x y : Int32} (hd : decode cc pc = .ok (.iand, 1)) (k : z_R p l e R s m args below meth c Q G base nL cells slots (pc + 1) lv (.int (x &&& y) :: st) hp) : z_R p l e R s m args below meth c Q G base nL cells slots pc lv (.int y :: .int x :: st) hp :=
  fun H locs ls h1 h2 h3 => lv_iand C.1 C.2.1 hd (k H locs ls h1 h2 h3)
theorem z_ixor (C : z_C p s m args meth c cc nL own G base) {x y : Int32} (hd : decode cc pc = .ok (.ixor, 1)) (k : z_R p l e R s m args below meth c Q G base nL cells slots (pc + 1) lv (.int (x ^^^ y) :: st) hp) : z_R p l e R s m args below meth c Q G base nL cells slots pc lv (.int y :: .int x :: st) hp :=
  fun H locs ls h1 h2 h3 => lv_ixor C.1 C.2.1 hd (k H locs ls h1 h2 h3)
theorem z_idiv (C : z_C p s m args meth c cc nL own G base) {x y : Int32} (hd : decode cc pc = .ok (.idiv, 1)) (hne : ¬ y = 0) (k : z_R p l e R s m args below meth c Q G base nL cells slots (pc + 1) lv (.int (x / y) :: st) hp) : z_R p l e R s m args below meth c Q G base nL cells slots pc lv (.int y :: .int x :: st) hp :=
  fun H locs ls h1 h2 h3 => lv_idiv C.1 C.2.1 hd hne (k H locs ls h1 h2 h3)
theorem z_irem (C : z_C p s m args meth c cc nL own G base) {x y : Int32} (hd : decode cc pc = .ok (.irem, 1)) (hne : ¬ y = 0) (k : z_R p l e R s m args below meth c Q G base nL cells slots (pc + 1) lv (.int (x - x / y * y) :: st) hp) : z_R p l e R s m args below meth c Q G base nL cells slots pc lv (.int y :: .int x :: st) hp :=
  fun H locs ls h1 h2 h3 => lv_irem C.1 C.2.1 hd hne (k H locs ls h1 h2 h3)
theorem z_ineg (C : z_C p s m args meth c cc nL own G base) {x : Int32} (hd : decode cc pc = .ok (.ineg, 1)) (k : z_R p l e R s m args below meth c Q G base nL cells slots (pc + 1) lv (.int (-x) :: st) hp) : z_R p l e R s m args below meth c Q G base nL cells slots pc lv (.int x :: st) hp :=
  fun H locs ls h1 h2 h3 => lv_ineg C.1 C.2.1 hd (k H locs ls h1 h2 h3)
theorem z_ishl (C : z_C p s m args meth c cc nL own G base) {x y : Int32} (hd : decode cc pc = .ok (.ishl, 1)) (k : z_R p l e R s m args below meth c Q G base nL cells slots (pc + 1) lv (.int (x <<< (y &&& 31)) :: st) hp) : z_R p l e R s m args below meth c Q G base nL cells slots pc lv (.int y :: .int x :: st) hp :=
  fun H locs ls h1 h2 h3 => lv_ishl C.1 C.2.1 hd (k H locs ls h1 h2 h3)
theorem z_iushr (C : z_C p s m args meth c cc nL own G base) {x y v : Int32} (hd : decode cc pc = .ok (.iushr, 1)) (hv : (x.toUInt32 >>> (y.toUInt32 &&& Int32.toUInt32 31)).toInt32 = v) (k : z_R p l e R s m args below meth c Q G base nL cells slots (pc + 1) lv (.int v :: st) hp) : z_R p l e R s m args below meth c Q G base nL cells slots pc lv (.int y :: .int x :: st) hp :=
  fun H locs ls h1 h2 h3 => lv_iushr C.1 C.2.1 hd hv (k H locs ls h1 h2 h3)
theorem z_land (C : z_C p s m args meth c cc nL own G base) {x y : Int64} (hd : decode cc pc = .ok (.land, 1)) (k : z_R p l e R s m args below meth c Q G base nL cells slots (pc + 1) lv (.long (x &&& y) :: st) hp) : z_R p l e R s m args below meth c Q G base nL cells slots pc lv (.long y :: .long x :: st) hp :=
  fun H locs ls h1 h2 h3 => lv_land C.1 C.2.1 hd (k H locs ls h1 h2 h3)
theorem z_lor (C : z_C p s m args meth c cc nL own G base) {x y : Int64} (hd : decode cc pc = .ok (.lor, 1)) (k : z_R p l e R s m args below meth c Q G base nL cells slots (pc + 1) lv (.long (x ||| y) :: st) hp) : z_R p l e R s m args below meth c Q G base nL cells slots pc lv (.long y :: .long x :: st) hp :=
  fun H locs ls h1 h2 h3 => lv_lor C.1 C.2.1 hd (k H locs ls h1 h2 h3)
theorem z_lxor (C : z_C p s m args meth c cc nL own G base) {x y : Int64} (hd : decode cc pc = .ok (.lxor, 1)) (k : z_R p l e R s m args below meth c Q G base nL cells slots (pc + 1) lv (.long (x ^^^ y) :: st) hp) : z_R p l e R s m args below meth c Q G base nL cells slots pc lv (.long y :: .long x :: st) hp :=
  fun H locs ls h1 h2 h3 => lv_lxor C.1 C.2.1 hd (k H locs ls h1 h2 h3)
theorem z_lshl (C : z_C p s m args meth c cc nL own G base) {x v : Int64} {y : Int32} (hd : decode cc pc = .ok (.lshl, 1)) (hv : x <<< (y.toInt64 &&& 63) = v) (k : z_R p l e R s m args below meth c Q G base nL cells slots (pc + 1) lv (.long v :: st) hp) : z_R p l e R s m args below meth c Q G base nL cells slots pc lv (.int y :: .long x :: st) hp :=
  fun H locs ls h1 h2 h3 => lv_lshl C.1 C.2.1 hd hv (k H locs ls h1 h2 h3)
theorem z_lushr (C : z_C p s m args meth c cc nL own G base) {x v : Int64} {y : Int32} (hd : decode cc pc = .ok (.lushr, 1)) (hv : (x.toUInt64 >>> (y.toInt64.toUInt64 &&& Int64.toUInt64 63)).toInt64 = v) (k : z_R p l e R s m args below meth c Q G base nL cells slots (pc + 1) lv (.long v :: st) hp) : z_R p l e R s m args below meth c Q G base nL cells slots pc lv (.int y :: .long x :: st) hp :=
  fun H locs ls h1 h2 h3 => lv_lushr C.1 C.2.1 hd hv (k H locs ls h1 h2 h3)
theorem z_lcmp (C : z_C p s m args meth c cc nL own G base) {x y : Int64} (hd : decode cc pc = .ok (.lcmp, 1)) (k : z_R p l e R s m args below meth c Q G base nL cells slots (pc + 1) lv (.int (lg_cmp x y) :: st) hp) : z_R p l e R s m args below meth c Q G base nL cells slots pc lv (.long y :: .long x :: st) hp :=
  fun H locs ls h1 h2 h3 => W.lcmp C.1 C.2.1 hd (k H locs ls h1 h2 h3)
theorem z_i2l (C : z_C p s m args meth c cc nL own G base) {x : Int32} {v : Int64} (hd : decode cc pc = .ok (.i2l, 1)) (hv : x.toInt64 = v) (k : z_R p l e R s m args below meth c Q G base nL cells slots (pc + 1) lv (.long v :: st) hp) : z_R p l e R s m args below meth c Q G base nL cells slots pc lv (.int x :: st) hp :=
  fun H locs ls h1 h2 h3 => lv_i2l C.1 C.2.1 hd hv (k H locs ls h1 h2 h3)
theorem z_l2i (C : z_C p s m args meth c cc nL own G base) {x : Int64} {v : Int32} (hd : decode cc pc = .ok (.l2i, 1)) (hv : x.toInt32 = v) (k : z_R p l e R s m args below meth c Q G base nL cells slots (pc + 1) lv (.int v :: st) hp) : z_R p l e R s m args below meth c Q G base nL cells slots pc lv (.long x :: st) hp :=
  fun H locs ls h1 h2 h3 => lv_l2i C.1 C.2.1 hd hv (k H locs ls h1 h2 h3)
theorem z_dup (C : z_C p s m args meth c cc nL own G base) {va : Value} (hd : decode cc pc = .ok (.dup, 1)) (hva : va.category = 1) (k : z_R p l e R s m args below meth c Q G base nL cells slots (pc + 1) lv (va :: va :: st) hp) : z_R p l e R s m args below meth c Q G base nL cells slots pc lv (va :: st) hp :=
  fun H locs ls h1 h2 h3 => lv_dup C.1 C.2.1 hd hva (k H locs ls h1 h2 h3)
theorem z_dup2 (C : z_C p s m args meth c cc nL own G base) {va vb : Value} (hd : decode cc pc = .ok (.dup2, 1)) (hva : va.category = 1) (hvb : vb.category = 1) (k : z_R p l e R s m args below meth c Q G base nL cells slots (pc + 1) lv (va :: vb :: va :: vb :: st) hp) : z_R p l e R s m args below meth c Q G base nL cells slots pc lv (va :: vb :: st) hp :=
  fun H locs ls h1 h2 h3 => lv_dup2_11 C.1 C.2.1 hd hva hvb (k H locs ls h1 h2 h3)
theorem z_pop (C : z_C p s m args meth c cc nL own G base) {va : Value} (hd : decode cc pc = .ok (.pop, 1)) (hva : va.category = 1) (k : z_R p l e R s m args below meth c Q G base nL cells slots (pc + 1) lv st hp) : z_R p l e R s m args below meth c Q G base nL cells slots pc lv (va :: st) hp :=
  fun H locs ls h1 h2 h3 => lv_pop C.1 C.2.1 hd hva (k H locs ls h1 h2 h3)
theorem z_goto (C : z_C p s m args meth c cc nL own G base) {off : Int} {tgt : Nat} (hd : decode cc pc = .ok (.goto off, 3)) (ht : (pc : Int) + off = (tgt : Int)) (k : z_R p l e R s m args below meth c Q G base nL cells slots tgt lv st hp) : z_R p l e R s m args below meth c Q G base nL cells slots pc lv st hp :=
  fun H locs ls h1 h2 h3 => lv_goto C.1 C.2.1 hd ht (k H locs ls h1 h2 h3)
theorem z_ifnull_s (C : z_C p s m args meth c cc nL own G base) {x : Nat} {off : Int} (hd : decode cc pc = .ok (.ifnull off, 3)) (k : z_R p l e R s m args below meth c Q G base nL cells slots (pc + 3) lv st hp) : z_R p l e R s m args below meth c Q G base nL cells slots pc lv (.ref x :: st) hp :=
  fun H locs ls h1 h2 h3 => lv_ifnull C.1 C.2.1 hd (k H locs ls h1 h2 h3)
theorem z_ifnull_n (C : z_C p s m args meth c cc nL own G base) {off : Int} {tgt : Nat} (hd : decode cc pc = .ok (.ifnull off, 3)) (ht : (pc : Int) + off = (tgt : Int)) (k : z_R p l e R s m args below meth c Q G base nL cells slots tgt lv st hp) : z_R p l e R s m args below meth c Q G base nL cells slots pc lv (.null :: st) hp :=
  fun H locs ls h1 h2 h3 => lv_ifnullN C.1 C.2.1 hd ht (k H locs ls h1 h2 h3)
theorem z_ifnonnull_s (C : z_C p s m args meth c cc nL own G base) {x : Nat} {off : Int} {tgt : Nat} (hd : decode cc pc = .ok (.ifnonnull off, 3)) (ht : (pc : Int) + off = (tgt : Int)) (k : z_R p l e R s m args below meth c Q G base nL cells slots tgt lv st hp) : z_R p l e R s m args below meth c Q G base nL cells slots pc lv (.ref x :: st) hp :=
  fun H locs ls h1 h2 h3 => lv_ifnonnull C.1 C.2.1 hd ht (k H locs ls h1 h2 h3)
theorem z_ifnonnull_n (C : z_C p s m args meth c cc nL own G base) {off : Int} (hd : decode cc pc = .ok (.ifnonnull off, 3)) (k : z_R p l e R s m args below meth c Q G base nL cells slots (pc + 3) lv st hp) : z_R p l e R s m args below meth c Q G base nL cells slots pc lv (.null :: st) hp :=
  fun H locs ls h1 h2 h3 => lv_ifnonnullN C.1 C.2.1 hd (k H locs ls h1 h2 h3)
theorem z_if_eq (C : z_C p s m args meth c cc nL own G base) {x : Int32} {off : Int} {tgt : Nat} (hd : decode cc pc = .ok (.ifCond .eq off, 3)) (ht : (pc : Int) + off = (tgt : Int)) (kt : x = 0 → z_R p l e R s m args below meth c Q G base nL cells slots tgt lv st hp) (kf : ¬ x = 0 → z_R p l e R s m args below meth c Q G base nL cells slots (pc + 3) lv st hp) : z_R p l e R s m args below meth c Q G base nL cells slots pc lv (.int x :: st) hp :=
  fun H locs ls h1 h2 h3 => lv_if_eq C.1 C.2.1 hd ht (fun h => kt h H locs ls h1 h2 h3) (fun h => kf h H locs ls h1 h2 h3)
theorem z_icmp_eq (C : z_C p s m args meth c cc nL own G base) {x y : Int32} {off : Int} {tgt : Nat} (hd : decode cc pc = .ok (.if_icmp .eq off, 3)) (ht : (pc : Int) + off = (tgt : Int)) (kt : x = y → z_R p l e R s m args below meth c Q G base nL cells slots tgt lv st hp) (kf : ¬ x = y → z_R p l e R s m args below meth c Q G base nL cells slots (pc + 3) lv st hp) : z_R p l e R s m args below meth c Q G base nL cells slots pc lv (.int y :: .int x :: st) hp :=
  fun H locs ls h1 h2 h3 => lv_icmp_eq C.1 C.2.1 hd ht (fun h => kt h H locs ls h1 h2 h3) (fun h => kf h H locs ls h1 h2 h3)
theorem z_if_ne (C : z_C p s m args meth c cc nL own G base) {x : Int32} {off : Int} {tgt : Nat} (hd : decode cc pc = .ok (.ifCond .ne off, 3)) (ht : (pc : Int) + off = (tgt : Int)) (kt : ¬ x = 0 → z_R p l e R s m args below meth c Q G base nL cells slots tgt lv st hp) (kf : x = 0 → z_R p l e R s m args below meth c Q G base nL cells slots (pc + 3) lv st hp) : z_R p l e R s m args below meth c Q G base nL cells slots pc lv (.int x :: st) hp :=
  fun H locs ls h1 h2 h3 => lv_if_ne C.1 C.2.1 hd ht (fun h => kt h H locs ls h1 h2 h3) (fun h => kf h H locs ls h1 h2 h3)
theorem z_icmp_ne (C : z_C p s m args meth c cc nL own G base) {x y : Int32} {off : Int} {tgt : Nat} (hd : decode cc pc = .ok (.if_icmp .ne off, 3)) (ht : (pc : Int) + off = (tgt : Int)) (kt : ¬ x = y → z_R p l e R s m args below meth c Q G base nL cells slots tgt lv st hp) (kf : x = y → z_R p l e R s m args below meth c Q G base nL cells slots (pc + 3) lv st hp) : z_R p l e R s m args below meth c Q G base nL cells slots pc lv (.int y :: .int x :: st) hp :=
  fun H locs ls h1 h2 h3 => lv_icmp_ne C.1 C.2.1 hd ht (fun h => kt h H locs ls h1 h2 h3) (fun h => kf h H locs ls h1 h2 h3)
theorem z_if_lt (C : z_C p s m args meth c cc nL own G base) {x : Int32} {off : Int} {tgt : Nat} (hd : decode cc pc = .ok (.ifCond .lt off, 3)) (ht : (pc : Int) + off = (tgt : Int)) (kt : x < 0 → z_R p l e R s m args below meth c Q G base nL cells slots tgt lv st hp) (kf : ¬ x < 0 → z_R p l e R s m args below meth c Q G base nL cells slots (pc + 3) lv st hp) : z_R p l e R s m args below meth c Q G base nL cells slots pc lv (.int x :: st) hp :=
  fun H locs ls h1 h2 h3 => lv_if_lt C.1 C.2.1 hd ht (fun h => kt h H locs ls h1 h2 h3) (fun h => kf h H locs ls h1 h2 h3)
theorem z_icmp_lt (C : z_C p s m args meth c cc nL own G base) {x y : Int32} {off : Int} {tgt : Nat} (hd : decode cc pc = .ok (.if_icmp .lt off, 3)) (ht : (pc : Int) + off = (tgt : Int)) (kt : x < y → z_R p l e R s m args below meth c Q G base nL cells slots tgt lv st hp) (kf : ¬ x < y → z_R p l e R s m args below meth c Q G base nL cells slots (pc + 3) lv st hp) : z_R p l e R s m args below meth c Q G base nL cells slots pc lv (.int y :: .int x :: st) hp :=
  fun H locs ls h1 h2 h3 => lv_icmp_lt C.1 C.2.1 hd ht (fun h => kt h H locs ls h1 h2 h3) (fun h => kf h H locs ls h1 h2 h3)
theorem z_if_ge (C : z_C p s m args meth c cc nL own G base) {x : Int32} {off : Int} {tgt : Nat} (hd : decode cc pc = .ok (.ifCond .ge off, 3)) (ht : (pc : Int) + off = (tgt : Int)) (kt : 0 ≤ x → z_R p l e R s m args below meth c Q G base nL cells slots tgt lv st hp) (kf : ¬ 0 ≤ x → z_R p l e R s m args below meth c Q G base nL cells slots (pc + 3) lv st hp) : z_R p l e R s m args below meth c Q G base nL cells slots pc lv (.int x :: st) hp :=
  fun H locs ls h1 h2 h3 => lv_if_ge C.1 C.2.1 hd ht (fun h => kt h H locs ls h1 h2 h3) (fun h => kf h H locs ls h1 h2 h3)
theorem z_icmp_ge (C : z_C p s m args meth c cc nL own G base) {x y : Int32} {off : Int} {tgt : Nat} (hd : decode cc pc = .ok (.if_icmp .ge off, 3)) (ht : (pc : Int) + off = (tgt : Int)) (kt : y ≤ x → z_R p l e R s m args below meth c Q G base nL cells slots tgt lv st hp) (kf : ¬ y ≤ x → z_R p l e R s m args below meth c Q G base nL cells slots (pc + 3) lv st hp) : z_R p l e R s m args below meth c Q G base nL cells slots pc lv (.int y :: .int x :: st) hp :=
  fun H locs ls h1 h2 h3 => lv_icmp_ge C.1 C.2.1 hd ht (fun h => kt h H locs ls h1 h2 h3) (fun h => kf h H locs ls h1 h2 h3)
theorem z_if_gt (C : z_C p s m args meth c cc nL own G base) {x : Int32} {off : Int} {tgt : Nat} (hd : decode cc pc = .ok (.ifCond .gt off, 3)) (ht : (pc : Int) + off = (tgt : Int)) (kt : 0 < x → z_R p l e R s m args below meth c Q G base nL cells slots tgt lv st hp) (kf : ¬ 0 < x → z_R p l e R s m args below meth c Q G base nL cells slots (pc + 3) lv st hp) : z_R p l e R s m args below meth c Q G base nL cells slots pc lv (.int x :: st) hp :=
  fun H locs ls h1 h2 h3 => lv_if_gt C.1 C.2.1 hd ht (fun h => kt h H locs ls h1 h2 h3) (fun h => kf h H locs ls h1 h2 h3)
theorem z_icmp_gt (C : z_C p s m args meth c cc nL own G base) {x y : Int32} {off : Int} {tgt : Nat} (hd : decode cc pc = .ok (.if_icmp .gt off, 3)) (ht : (pc : Int) + off = (tgt : Int)) (kt : y < x → z_R p l e R s m args below meth c Q G base nL cells slots tgt lv st hp) (kf : ¬ y < x → z_R p l e R s m args below meth c Q G base nL cells slots (pc + 3) lv st hp) : z_R p l e R s m args below meth c Q G base nL cells slots pc lv (.int y :: .int x :: st) hp :=
  fun H locs ls h1 h2 h3 => lv_icmp_gt C.1 C.2.1 hd ht (fun h => kt h H locs ls h1 h2 h3) (fun h => kf h H locs ls h1 h2 h3)
theorem z_if_le (C : z_C p s m args meth c cc nL own G base) {x : Int32} {off : Int} {tgt : Nat} (hd : decode cc pc = .ok (.ifCond .le off, 3)) (ht : (pc : Int) + off = (tgt : Int)) (kt : x ≤ 0 → z_R p l e R s m args below meth c Q G base nL cells slots tgt lv st hp) (kf : ¬ x ≤ 0 → z_R p l e R s m args below meth c Q G base nL cells slots (pc + 3) lv st hp) : z_R p l e R s m args below meth c Q G base nL cells slots pc lv (.int x :: st) hp :=
  fun H locs ls h1 h2 h3 => lv_if_le C.1 C.2.1 hd ht (fun h => kt h H locs ls h1 h2 h3) (fun h => kf h H locs ls h1 h2 h3)
theorem z_icmp_le (C : z_C p s m args meth c cc nL own G base) {x y : Int32} {off : Int} {tgt : Nat} (hd : decode cc pc = .ok (.if_icmp .le off, 3)) (ht : (pc : Int) + off = (tgt : Int)) (kt : x ≤ y → z_R p l e R s m args below meth c Q G base nL cells slots tgt lv st hp) (kf : ¬ x ≤ y → z_R p l e R s m args below meth c Q G base nL cells slots (pc + 3) lv st hp) : z_R p l e R s m args below meth c Q G base nL cells slots pc lv (.int y :: .int x :: st) hp :=
  fun H locs ls h1 h2 h3 => lv_icmp_le C.1 C.2.1 hd ht (fun h => kt h H locs ls h1 h2 h3) (fun h => kf h H locs ls h1 h2 h3)
theorem z_tabOut (C : z_C p s m args meth c cc nL own G base) {dflt lo hi : Int} {offs : Array Int} {len : Nat} {x : Int32} {tgt : Nat} (hd : decode cc pc = .ok (.tableswitch dflt lo hi offs, len)) (h : x.toInt < lo ∨ hi < x.toInt) (ht : (pc : Int) + dflt = (tgt : Int)) (k : z_R p l e R s m args below meth c Q G base nL cells slots tgt lv st hp) : z_R p l e R s m args below meth c Q G base nL cells slots pc lv (.int x :: st) hp :=
  fun H locs ls h1 h2 h3 => lv_tableOut C.1 C.2.1 hd h ht (k H locs ls h1 h2 h3)
theorem z_tabIn (C : z_C p s m args meth c cc nL own G base) {dflt lo hi : Int} {offs : Array Int} {len : Nat} {x : Int32} {off : Int} {tgt : Nat} (hd : decode cc pc = .ok (.tableswitch dflt lo hi offs, len)) (ha : ¬ x.toInt < lo) (hb : ¬ hi < x.toInt) (ho : offs[(x.toInt - lo).toNat]? = some off) (ht : (pc : Int) + off = (tgt : Int)) (k : z_R p l e R s m args below meth c Q G base nL cells slots tgt lv st hp) : z_R p l e R s m args below meth c Q G base nL cells slots pc lv (.int x :: st) hp :=
  fun H locs ls h1 h2 h3 => lv_tableIn C.1 C.2.1 hd ha hb ho ht (k H locs ls h1 h2 h3)
/-- a field's link: who, by which place of its pool; of which class, which slot -/
def z_FL (own : String) (idx ci k : Nat) : Prop := ∃ q : vw_C, vwCl[ci]? = some q ∧ k < q.2.2 ∧ (∀ w ∈ u_ws q.1 q.2.1 q.2.2, w ∈ z_W) ∧ Cond.fieldLink own idx (q.2.1 k).1 (q.2.1 k).2.1 (q.2.1 k).2.2.1 ∈ z_W
theorem z_get (C : z_C p s m args meth c cc nL own G base) {idx ci k i : Nat} {fs : List Value} {v : Value} (hf : z_FL own idx ci k) (hd : decode cc pc = .ok (.getfield idx, 3)) (he : hp[i]? = some (.inr (ci, fs))) (hv : fs[k]? = some v) (kk : z_R p l e R s m args below meth c Q G base nL cells slots (pc + 3) lv (v :: st) hp) : z_R p l e R s m args below meth c Q G base nL cells slots pc lv (.ref (base + i) :: st) hp := by
  intro H locs ls h1 h2 h3
  obtain ⟨⟨Cn, T, N⟩, hc, hk, hin, hw⟩ := hf
  exact va_get (D := G.1) (cl := vwCl) (tys := z_Ty G.2) (ws := [(base + i, .inr (ci, fs))]) (C := Cn) (T := T) (N := N) C.1 C.2.1 C.2.2.2.2.1 hin C.2.2.2.1 C.2.2.2.2.2.1.1 (fun a q hq => by
    cases a with
    | zero => cases hq; exact h1.2 i _ he
    | succ a => cases hq) 0 rfl hc k hk (C.2.2.2.2.1 _ hw) (fun _ h => h) hv hd (kk H locs ls h1 h2 h3)
/-- the types of a class' fields -/
def z_FP (ci : Nat) (ty : Nat → FieldType) : Prop := ∃ q : vw_C, vwCl[ci]? = some q ∧ (∀ k, k < q.2.2 → parseFieldDescriptor (q.2.1 k).2.2.1 = some (ty k)) ∧ (∀ a, a < q.2.2 → ∀ b, b < q.2.2 → a ≠ b → (q.2.1 a).2.1 ≠ (q.2.1 b).2.1)
def z_fin (ci k : Nat) : Option Bool := (vwCl[ci]?).map (fun q => (q.2.1 k).2.2.2)
def z_dcl (ci k : Nat) : Option String := (vwCl[ci]?).map (fun q => (q.2.1 k).1)
theorem z_put (C : z_C p s m args meth c cc nL own G base) {idx ci k i : Nat} {fs : List Value} {v : Value} {ty : Nat → FieldType} (hf : z_FL own idx ci k) (ht : z_FP ci ty) (hfi : z_fin ci k = some false) (hd : decode cc pc = .ok (.putfield idx, 3)) (he : hp[i]? = some (.inr (ci, fs))) (hl : k < fs.length) (hn : narrow (ty k) v = v) (hfit : fits (ty k) v = true) (kk : z_R p l e R s m args below meth c Q G base nL cells slots (pc + 3) lv st (hp.set i (.inr (ci, fs.set k v)))) : z_R p l e R s m args below meth c Q G base nL cells slots pc lv (v :: .ref (base + i) :: st) hp := by
  intro H locs ls h1 h2 h3
  obtain ⟨⟨Cn, T, N⟩, hc, hk, hin, hw⟩ := hf
  obtain ⟨q, hc2, hty, hnm⟩ := ht
  have e : q = (Cn, T, N) := Option.some.inj (hc2.symm.trans hc)
  subst e
  have hfin : (T k).2.2.2 = false := by
    unfold z_fin at hfi
    rw [hc] at hfi
    exact Option.some.inj hfi
  have hts := C.2.2.2.2.1
  have hK := C.2.2.2.2.2.1.1
  have hown := C.2.2.2.1
  have hap := va_apart (own := own) hts hin ty hty hnm hK hc
  obtain ⟨r, g1, cell, q1, q2, q3, q4⟩ := h1.2 i _ he
  have hr : r = (Cn, T, N) := Option.some.inj (g1.symm.trans hc)
  subst hr
  obtain ⟨hS, hfc, kC, hkC, hkind⟩ := hK.1 ci _ hc
  obtain ⟨cf, kf, fi, f, hi, hsl⟩ := hS k hk
  have hlay := hts _ (hin _ (u_in_lay hk))
  unfold u_lay at hlay
  rw [if_neg (by rw [hfin]; decide)] at hlay
  have hst := (u_facts hfc hkC (u_lays hts hin hk) hi).1
  have h6 := u_store hfc hkC hkind hlay hi (hty k hk) hn hfit
  refine W.putK C.1 C.2.1 (f := f) ⟨hown, hts _ hw, ⟨_, _, _, hi⟩, hst⟩ (by rw [q2]; exact h6) q1 q3 (by rw [hsl]; exact k2_hasslot (q4 k hk)) rfl rfl hd fun H' e1 e2 e3 => ?_
  rw [hsl] at e1 ⊢
  exact kk H' _ ls (h1.set e2 e3 ⟨_, hc, t_OB.to (V := updV (vp_V fs) k v) ⟨_, e1, q2, q3, t_set q4 hap hk v⟩ (fun j _ => vp_updV_set hl v j)⟩) (h2.put e2 e3 (Nat.le_add_right _ _)) h3
theorem z_putF (C : z_C p s m args meth c cc nL own G base) {idx ci k i : Nat} {fs : List Value} {v : Value} {ty : Nat → FieldType} (hmn : meth.name = "<init>") (hf : z_FL own idx ci k) (ht : z_FP ci ty) (hfi : z_fin ci k = some true) (hdc : z_dcl ci k = some own) (hd : decode cc pc = .ok (.putfield idx, 3)) (he : hp[i]? = some (.inr (ci, fs))) (hl : k < fs.length) (hn : narrow (ty k) v = v) (hfit : fits (ty k) v = true) (kk : z_R p l e R s m args below meth c Q G base nL cells slots (pc + 3) lv st (hp.set i (.inr (ci, fs.set k v)))) : z_R p l e R s m args below meth c Q G base nL cells slots pc lv (v :: .ref (base + i) :: st) hp := by
  intro H locs ls h1 h2 h3
  obtain ⟨⟨Cn, T, N⟩, hc, hk, hin, hw⟩ := hf
  obtain ⟨q, hc2, hty, hnm⟩ := ht
  have e : q = (Cn, T, N) := Option.some.inj (hc2.symm.trans hc)
  subst e
  have hfin : (T k).2.2.2 = true := by
    unfold z_fin at hfi
    rw [hc] at hfi
    exact Option.some.inj hfi
  have hdecl : (T k).1 = own := by
    unfold z_dcl at hdc
    rw [hc] at hdc
    exact Option.some.inj hdc
  have hts := C.2.2.2.2.1
  have hK := C.2.2.2.2.2.1.1
  have hown := C.2.2.2.1
  have hap := va_apart (own := own) hts hin ty hty hnm hK hc
  obtain ⟨r, g1, cell, q1, q2, q3, q4⟩ := h1.2 i _ he
  have hr : r = (Cn, T, N) := Option.some.inj (g1.symm.trans hc)
  subst hr
  obtain ⟨hS, hfc, kC, hkC, hkind⟩ := hK.1 ci _ hc
  obtain ⟨cf, kf, fi, f, hi, hsl⟩ := hS k hk
  have hlay := hts _ (hin _ (u_in_lay hk))
  unfold u_lay at hlay
  rw [if_pos hfin] at hlay
  have hst := (u_facts hfc hkC (u_lays hts hin hk) hi).1
  have hcf : m.cls = cf := by
    obtain ⟨_, _, c', _, _, _, -, -, hf', -, -, -, hown2, -⟩ := Cond.laysFinal_spec hlay
    have e1 : c' = cf := by have := hi.symm.trans hf'; simp at this; exact this.1.symm
    rw [hdecl] at hown2
    rw [← e1]; exact Option.some.inj (hown.symm.trans hown2)
  have h6 := u_fits hfc hkC hkind (Or.inr hlay) hi (hty k hk) hn hfit
  refine W.putFinK C.1 C.2.1 hown (hts _ hw) hi hst hcf hmn (by rw [q2]; exact h6) q1 q3 (by rw [hsl]; exact k2_hasslot (q4 k hk)) rfl rfl hd fun H' e1 e2 e3 => ?_
  rw [hsl] at e1 ⊢
  exact kk H' _ ls (h1.set e2 e3 ⟨_, hc, t_OB.to (V := updV (vp_V fs) k v) ⟨_, e1, q2, q3, t_set q4 hap hk v⟩ (fun j _ => vp_updV_set hl v j)⟩) (h2.put e2 e3 (Nat.le_add_right _ _)) h3
end ZR
