section ZR3
variable {p : Program} {l : Launch} {e : Env} {R : Room} {s : State} {m : MethodId} {args : Array Value} {below : List Frame} {meth : Method} {c : Code} {Q : State → Prop} {cc : ByteArray} {own : String} {G : z_G} {base nL cells slots pc : Nat} {lv : List (Nat × Value)} {st : List Value} {hp : List va_E}
theorem z_N_warm {s U : State} (hW : s.WarmedH U.vm) (h : ∀ w ∈ z_N, va_Nw w s) : ∀ w ∈ z_N, va_Nw w U := by
  intro w hw
  have h1 := h w hw
  simp only [z_N, List.mem_cons, List.not_mem_nil, or_false] at hw
  rcases hw with rfl | rfl | rfl | rfl <;> exact va_Nw.warmM hW h1
theorem z_K.warm {s U : State} (hW : s.WarmedH U.vm) (h : z_K G s) : z_K G U := ⟨va_K.moved hW.alike h.1, z_N_warm hW h.2.1, h.2.2.1.moved hW.alike, h.2.2.2.moved hW.alike⟩
theorem z_Pc.blind {as : List Value} : FrameBlind (z_Pc G base as hp) := by
  intro a U g mk h
  obtain ⟨h1, h2, h3⟩ := h
  exact ⟨h1, h2, va_K.moved (u := U) (U := U.calling g mk a) (Vm.Alike.refl U.vm) h3.1, fun w hw => by
    have h4 := h3.2.1 w hw
    simp only [z_N, List.mem_cons, List.not_mem_nil, or_false] at hw
    rcases hw with rfl | rfl | rfl | rfl <;> exact va_Nw.same rfl rfl h4, h3.2.2.1.moved (U := U.calling g mk a) (Vm.Alike.refl U.vm), h3.2.2.2.moved (U := U.calling g mk a) (Vm.Alike.refl U.vm)⟩
/-- behind a call -/
theorem z_call {mc ms : Nat} {st0 rest : List Value} {a : Array Value} {post : Option Value → List va_E → Prop}
    (hr : ∀ (H : Heap) (locs : List Loc) (ls : Array Slot), z_H G base hp H → lv_has ls nL lv → va_Run p l e R s m args below meth c H locs cells slots mc ms (F0 m pc ls st0) rest (z_Qc G base post a) (fun q => base ≤ q))
    (kk : ∀ (v : Option Value) (hp' : List va_E), post v hp' → z_R p l e R s m args below meth c Q G base nL (cells + mc) (slots + ms) (pc + 3) lv (v.toList ++ rest) hp') : z_R p l e R s m args below meth c Q G base nL cells slots pc lv st0 hp := by
  intro H locs ls h1 h2 h3 T hT X
  obtain ⟨v, st₀, t, T', L, h0, X', hL, e1, e2, ⟨⟨v', hp', hv, hp1, hH⟩, hz, hk⟩, stp⟩ := hr H locs ls h1 h3 T hT X
  cases hv
  rw [h0] at hz hk
  obtain ⟨t2, a1, b1⟩ := kk v hp' hp1 T'.heap (locs ++ L) ls (by rw [e1]; exact hH)
    ⟨Nat.le_trans h2.1 (by rw [e1]; exact hz), fun q g1 g2 => by rw [e1, hk q (Nat.lt_of_lt_of_le g1 h2.1) g2]; exact h2.2.1 q g1 g2, fun q hq => by
      rcases List.mem_append.mp hq with h | h
      · exact h2.2.2 q h
      · exact hL q h⟩ h3 T' rfl X'
  exact ⟨t2, stp t2 a1, b1⟩
theorem z_goodIn {y : MethodName} {bc : ByteArray} {mL : Nat} {rt : Option FieldType} (h : Cond.code y bc mL rt ∈ z_W) : GoodIn z_W (Cond.code y bc mL rt :: z_W) := fun w hw => by
  rcases List.mem_cons.mp hw with rfl | hw
  · exact ⟨h, z_W_good _ h⟩
  · exact ⟨hw, z_W_good _ hw⟩
/-- a method's link, by its kind -/
def z_LB (y : MethodName) (n : Nat) : Prop := Cond.initialized y.cls ∈ z_W ∧ y.cls ≠ "java/lang/invoke/MethodHandle" ∧ y.cls ≠ "java/lang/invoke/VarHandle" ∧ (parseMethodDescriptor y.desc).map (fun d => d.parameters.length) = some n
def z_LV (own : String) (idx : Nat) (y : MethodName) (n : Nat) : Prop := Cond.methodLink own idx y ∈ z_W ∧ Cond.instanceMethod y ∈ z_W ∧ Cond.selects y.cls y y ∈ z_W ∧ z_LB y n
def z_LS (own : String) (idx : Nat) (y : MethodName) (n : Nat) : Prop := Cond.methodLink own idx y ∈ z_W ∧ Cond.static y ∈ z_W ∧ z_LB y n
def z_LI (own : String) (idx : Nat) (y : MethodName) (n : Nat) : Prop := Cond.methodLink own idx y ∈ z_W ∧ Cond.instanceMethod y ∈ z_W ∧ y.name = "<init>" ∧ z_LB y n
def z_LIN (own : String) (idx : Nat) (y : MethodName) (host : String) (n : Nat) : Prop := Cond.methodLinkNest own idx y host ∈ z_N ∧ Cond.instanceMethod y ∈ z_W ∧ y.name = "<init>" ∧ z_LB y n
def z_LSN (own : String) (idx : Nat) (y : MethodName) (host : String) (n : Nat) : Prop := Cond.methodLinkNest own idx y host ∈ z_N ∧ Cond.static y ∈ z_W ∧ z_LB y n
theorem z_callB (C : z_C p s m args meth c cc nL own G base) {y : MethodName} {bc : ByteArray} {mL : Nat} {rt : Option FieldType} {d mc ms n idx : Nat} (hcode : Cond.code y bc mL rt ∈ z_W) (hl : Cond.methodLink own idx y ∈ z_W) (hb : z_LB y n) (hR1 : d + 1 ≤ R.frames) (hR2 : 8 + (mL + 11) + 40 * d ≤ R.locals) : CallB R s args own idx y bc mL rt (Cond.code y bc mL rt :: z_W) (z_rm d mc ms) mc ms n :=
  callB_of n C.2.2.2.2.1 (z_goodIn hcode) rfl rfl rfl (C.2.2.2.2.1 _ hb.1) (C.2.2.2.2.1 _ hl) hb.2 ⟨hR1, hR2⟩
theorem z_callV (C : z_C p s m args meth c cc nL own G base) {y : MethodName} {bc : ByteArray} {mL : Nat} {rt : Option FieldType} {d mc ms n idx i ci : Nat} {As rest st0 : List Value} {fs : List Value} {post : Option Value → List va_E → Prop} (hM : z_M l G base y bc mL rt d mc ms (.ref (base + i) :: As) hp post) (hL : z_LV own idx y n) (hcode : Cond.code y bc mL rt ∈ z_W) (he : hp[i]? = some (.inr (ci, fs))) (hci : (vwCl[ci]?).map (fun q => q.1) = some y.cls) (hn : As.length = n) (hst : st0 = As.reverse ++ .ref (base + i) :: rest) (hrm : (rest.map fun v => v.category).sum ≤ 8) (hd : decode cc pc = .ok (.invokevirtual idx, 3)) (hR1 : d + 1 ≤ R.frames) (hR2 : 8 + (mL + 11) + 40 * d ≤ R.locals) (hcm : cells + mc ≤ R.cells) (hsm : slots + ms ≤ R.slots)
    (kk : ∀ (v : Option Value) (hp' : List va_E), post v hp' → z_R p l e R s m args below meth c Q G base nL (cells + mc) (slots + ms) (pc + 3) lv (v.toList ++ rest) hp') : z_R p l e R s m args below meth c Q G base nL cells slots pc lv st0 hp := by
  refine z_call (a := (Value.ref (base + i) :: As).toArray) (fun H locs ls h1 h3 => ?_) kk
  have hts := C.2.2.2.2.1
  refine va_runV (nL := nL) (n := n) (C := y.cls) (Ts := z_W) (own := own) (index := idx) ⟨C.1, C.2.1, C.2.2.1, C.2.2.2.1, hts⟩ hM ⟨z_callB C hcode hL.1 hL.2.2.2 hR1 hR2, hts _ hL.2.1, hts _ hL.2.2.1⟩ ⟨z_Pc.blind, ?_, fun U hU hW => ⟨rfl, by rw [hU]; exact h1, C.2.2.2.2.2.1.warm hW⟩⟩ rfl hn h3.1 hst (lv_room hrm) hd ⟨hcm, hsm⟩
  cases hq : vwCl[ci]? with
  | none => rw [hq] at hci; cases hci
  | some q =>
    rw [hq] at hci
    obtain ⟨cell, g1, g2, g3⟩ := va_recv (ws := [(base + i, .inr (ci, fs))]) (q0 := 0) C.2.2.2.2.2.1.1 (z_one h1 he) hq rfl
    exact ⟨cell, g1, g2, by rw [← Option.some.inj hci]; exact g3⟩
theorem z_callS (C : z_C p s m args meth c cc nL own G base) {y : MethodName} {bc : ByteArray} {mL : Nat} {rt : Option FieldType} {d mc ms n idx : Nat} {As rest st0 : List Value} {post : Option Value → List va_E → Prop} (hM : z_M l G base y bc mL rt d mc ms As hp post) (hL : z_LS own idx y n) (hcode : Cond.code y bc mL rt ∈ z_W) (hn : As.length = n) (hst : st0 = As.reverse ++ rest) (hrm : (rest.map fun v => v.category).sum ≤ 8) (hd : decode cc pc = .ok (.invokestatic idx, 3)) (hR1 : d + 1 ≤ R.frames) (hR2 : 8 + (mL + 11) + 40 * d ≤ R.locals) (hcm : cells + mc ≤ R.cells) (hsm : slots + ms ≤ R.slots)
    (kk : ∀ (v : Option Value) (hp' : List va_E), post v hp' → z_R p l e R s m args below meth c Q G base nL (cells + mc) (slots + ms) (pc + 3) lv (v.toList ++ rest) hp') : z_R p l e R s m args below meth c Q G base nL cells slots pc lv st0 hp := by
  refine z_call (a := As.toArray) (fun H locs ls h1 h3 => ?_) kk
  have hts := C.2.2.2.2.1
  exact va_runS (nL := nL) (n := n) (Ts := z_W) (own := own) (index := idx) ⟨C.1, C.2.1, C.2.2.1, C.2.2.2.1, hts⟩ hM ⟨z_callB C hcode hL.1 hL.2.2 hR1 hR2, hts _ hL.2.1⟩ ⟨z_Pc.blind, fun U hU hW => ⟨rfl, by rw [hU]; exact h1, C.2.2.2.2.2.1.warm hW⟩⟩ rfl hn h3.1 hst (lv_room hrm) hd ⟨hcm, hsm⟩
theorem z_callI (C : z_C p s m args meth c cc nL own G base) {y : MethodName} {bc : ByteArray} {mL : Nat} {d mc ms n idx i : Nat} {As rest st0 : List Value} {post : Option Value → List va_E → Prop} (hM : z_M l G base y bc mL none d mc ms (.ref (base + i) :: As) hp post) (hL : z_LI own idx y n) (hcode : Cond.code y bc mL none ∈ z_W) (hn : As.length = n) (hst : st0 = As.reverse ++ .ref (base + i) :: rest) (hrm : (rest.map fun v => v.category).sum ≤ 8) (hd : decode cc pc = .ok (.invokespecial idx, 3)) (hR1 : d + 1 ≤ R.frames) (hR2 : 8 + (mL + 11) + 40 * d ≤ R.locals) (hcm : cells + mc ≤ R.cells) (hsm : slots + ms ≤ R.slots)
    (kk : ∀ (v : Option Value) (hp' : List va_E), post v hp' → z_R p l e R s m args below meth c Q G base nL (cells + mc) (slots + ms) (pc + 3) lv (v.toList ++ rest) hp') : z_R p l e R s m args below meth c Q G base nL cells slots pc lv st0 hp := by
  refine z_call (a := (Value.ref (base + i) :: As).toArray) (fun H locs ls h1 h3 => ?_) kk
  have hts := C.2.2.2.2.1
  exact va_runI (nL := nL) (n := n) (Ts := z_W) (own := own) (index := idx) ⟨C.1, C.2.1, C.2.2.1, C.2.2.2.1, hts⟩ hM ⟨z_callB C hcode hL.1 hL.2.2.2 hR1 hR2, hL.2.2.1, hts _ hL.2.1⟩ ⟨z_Pc.blind, fun U hU hW => ⟨rfl, by rw [hU]; exact h1, C.2.2.2.2.2.1.warm hW⟩⟩ rfl hn h3.1 hst (lv_room hrm) hd ⟨hcm, hsm⟩
theorem z_callIN (C : z_C p s m args meth c cc nL own G base) {y : MethodName} {bc : ByteArray} {mL : Nat} {d mc ms n idx i : Nat} {host : String} {As rest st0 : List Value} {post : Option Value → List va_E → Prop} (hM : z_M l G base y bc mL none d mc ms (.ref (base + i) :: As) hp post) (hL : z_LIN own idx y host n) (hcode : Cond.code y bc mL none ∈ z_W) (hn : As.length = n) (hst : st0 = As.reverse ++ .ref (base + i) :: rest) (hrm : (rest.map fun v => v.category).sum ≤ 8) (hd : decode cc pc = .ok (.invokespecial idx, 3)) (hR1 : d + 1 ≤ R.frames) (hR2 : 8 + (mL + 11) + 40 * d ≤ R.locals) (hcm : cells + mc ≤ R.cells) (hsm : slots + ms ≤ R.slots)
    (kk : ∀ (v : Option Value) (hp' : List va_E), post v hp' → z_R p l e R s m args below meth c Q G base nL (cells + mc) (slots + ms) (pc + 3) lv (v.toList ++ rest) hp') : z_R p l e R s m args below meth c Q G base nL cells slots pc lv st0 hp := by
  refine z_call (a := (Value.ref (base + i) :: As).toArray) (fun H locs ls h1 h3 => ?_) kk
  have hts := C.2.2.2.2.1
  have hb := hL.2.2.2
  exact va_runIN (nL := nL) (n := n) (Ts := z_W) (own := own) (index := idx) ⟨C.1, C.2.1, C.2.2.1, C.2.2.2.1, hts⟩ hM ⟨va_cnB n hts (z_goodIn hcode) rfl rfl rfl (C.2.2.2.2.2.1.2.1 _ hL.1) (hts _ hb.1) hb.2 ⟨hR1, hR2⟩, hL.2.2.1, hts _ hL.2.1⟩ ⟨z_Pc.blind, fun U hU hW => ⟨rfl, by rw [hU]; exact h1, C.2.2.2.2.2.1.warm hW⟩⟩ rfl hn h3.1 hst (lv_room hrm) hd ⟨hcm, hsm⟩
theorem z_callSN (C : z_C p s m args meth c cc nL own G base) {y : MethodName} {bc : ByteArray} {mL : Nat} {rt : Option FieldType} {d mc ms n idx : Nat} {host : String} {As rest st0 : List Value} {post : Option Value → List va_E → Prop} (hM : z_M l G base y bc mL rt d mc ms As hp post) (hL : z_LSN own idx y host n) (hcode : Cond.code y bc mL rt ∈ z_W) (hn : As.length = n) (hst : st0 = As.reverse ++ rest) (hrm : (rest.map fun v => v.category).sum ≤ 8) (hd : decode cc pc = .ok (.invokestatic idx, 3)) (hR1 : d + 1 ≤ R.frames) (hR2 : 8 + (mL + 11) + 40 * d ≤ R.locals) (hcm : cells + mc ≤ R.cells) (hsm : slots + ms ≤ R.slots)
    (kk : ∀ (v : Option Value) (hp' : List va_E), post v hp' → z_R p l e R s m args below meth c Q G base nL (cells + mc) (slots + ms) (pc + 3) lv (v.toList ++ rest) hp') : z_R p l e R s m args below meth c Q G base nL cells slots pc lv st0 hp := by
  refine z_call (a := As.toArray) (fun H locs ls h1 h3 => ?_) kk
  have hts := C.2.2.2.2.1
  have hb := hL.2.2
  exact va_runSN (nL := nL) (n := n) (Ts := z_W) (own := own) (index := idx) ⟨C.1, C.2.1, C.2.2.1, C.2.2.2.1, hts⟩ hM ⟨va_cnB n hts (z_goodIn hcode) rfl rfl rfl (C.2.2.2.2.2.1.2.1 _ hL.1) (hts _ hb.1) hb.2 ⟨hR1, hR2⟩, hts _ hL.2.1, trivial⟩ ⟨z_Pc.blind, fun U hU hW => ⟨rfl, by rw [hU]; exact h1, C.2.2.2.2.2.1.warm hW⟩⟩ rfl hn h3.1 hst (lv_room hrm) hd ⟨hcm, hsm⟩
theorem z_objInit (C : z_C p s m args meth c cc nL own G base) {idx x : Nat} (hw : Cond.methodLink own idx Lib.objectInit ∈ z_W) (hw2 : Cond.instanceMethod Lib.objectInit ∈ z_W) (hw3 : Cond.code Lib.objectInit ⟨#[0xb1]⟩ 1 none ∈ z_W) (hd : decode cc pc = .ok (.invokespecial idx, 3)) (hR1 : 1 ≤ R.frames) (hR2 : (st.map fun v => v.category).sum + 12 ≤ R.locals) (kk : z_R p l e R s m args below meth c Q G base nL cells slots (pc + 3) lv st hp) : z_R p l e R s m args below meth c Q G base nL cells slots pc lv (.ref x :: st) hp := by
  intro H locs ls h1 h2 h3
  have hts := C.2.2.2.2.1
  exact W.objInit C.1 C.2.1 C.2.2.2.1 (hts _ hw) (hts _ hw2) (hts _ hw3) (g := F0 m pc ls (.ref x :: st)) rfl (by rw [C.2.2.1]; exact h3.1) rfl hd hR1 (by simpa [JFrame.monitorRoom] using hR2) (kk H locs ls h1 h2 h3)
theorem z_mmin (C : z_C p s m args meth c cc nL own G base) {idx : Nat} {x y : Int32} (hw : Cond.methodLink own idx Lib.Math.min.name ∈ z_W) (hw1 : Cond.static Lib.Math.min.name ∈ z_W) (hw2 : Cond.initialized "java/lang/Math" ∈ z_W) (hw3 : Cond.code Lib.Math.min.name Lib.Math.min.code 2 (some .int) ∈ z_W) (hd : decode cc pc = .ok (.invokestatic idx, 3)) (hR1 : 1 ≤ R.frames) (hR2 : (st.map fun v => v.category).sum + 13 ≤ R.locals) (hcm : cells ≤ R.cells) (hsm : slots ≤ R.slots) (kk : z_R p l e R s m args below meth c Q G base nL cells slots (pc + 3) lv (.int (if y < x then y else x) :: st) hp) : z_R p l e R s m args below meth c Q G base nL cells slots pc lv (.int y :: .int x :: st) hp := by
  intro H locs ls h1 h2 h3
  have hts := C.2.2.2.2.1
  exact va_mmin C.1 C.2.1 (by rw [C.2.2.1]; exact h3.1.symm) C.2.2.2.1 (hts _ hw) (hts _ hw1) (hts _ hw2) (hts _ hw3) hR1 hR2 hcm hsm hd (kk H locs ls h1 h2 h3)
theorem z_mmax (C : z_C p s m args meth c cc nL own G base) {idx : Nat} {x y : Int32} (hw : Cond.methodLink own idx Lib.Math.max.name ∈ z_W) (hw1 : Cond.static Lib.Math.max.name ∈ z_W) (hw2 : Cond.initialized "java/lang/Math" ∈ z_W) (hw3 : Cond.code Lib.Math.max.name Lib.Math.max.code 2 (some .int) ∈ z_W) (hd : decode cc pc = .ok (.invokestatic idx, 3)) (hR1 : 1 ≤ R.frames) (hR2 : (st.map fun v => v.category).sum + 13 ≤ R.locals) (hcm : cells ≤ R.cells) (hsm : slots ≤ R.slots) (kk : z_R p l e R s m args below meth c Q G base nL cells slots (pc + 3) lv (.int (if x < y then y else x) :: st) hp) : z_R p l e R s m args below meth c Q G base nL cells slots pc lv (.int y :: .int x :: st) hp := by
  intro H locs ls h1 h2 h3
  have hts := C.2.2.2.2.1
  exact va_mmax C.1 C.2.1 (by rw [C.2.2.1]; exact h3.1.symm) C.2.2.2.1 (hts _ hw) (hts _ hw1) (hts _ hw2) (hts _ hw3) hR1 hR2 hcm hsm hd (kk H locs ls h1 h2 h3)
end ZR3
section ZR4
variable {p : Program} {l : Launch} {e : Env} {R : Room} {s : State} {m : MethodId} {args : Array Value} {below : List Frame} {meth : Method} {c : Code} {cc : ByteArray} {own : String} {G : z_G} {base nL cells slots pc mc ms : Nat} {lv : List (Nat × Value)} {hp : List va_E} {post : Option Value → List va_E → Prop}
theorem z_iret (C : z_C p s m args meth c cc nL own G base) {ty : FieldType} {v : Int32} (hr : meth.sig.returnType = some ty) (hn : narrow ty (.int v) = .int v) (hd : decode cc pc = .ok (.ireturn, 1)) (h1 : cells ≤ mc) (h2 : slots ≤ ms) (hq : post (some (.int v)) hp) : z_R p l e R s m args below meth c (MQ below (z_Qc G base post) args s mc ms (fun q => base ≤ q)) G base nL cells slots pc lv [.int v] hp :=
  fun _ _ _ a1 a2 _ => W.widen h1 h2 (W.zret C.1 C.2.1 hr hn (fun t ht _ => ⟨⟨_, _, rfl, hq, by rw [ht]; exact a1⟩, a2.F ht⟩) a2.2.2 hd C.2.2.2.2.2.2.1)
theorem z_vret (C : z_C p s m args meth c cc nL own G base) (hr : meth.sig.returnType = none) (hd : decode cc pc = .ok (.return_, 1)) (h1 : cells ≤ mc) (h2 : slots ≤ ms) (hq : post none hp) : z_R p l e R s m args below meth c (MQ below (z_Qc G base post) args s mc ms (fun q => base ≤ q)) G base nL cells slots pc lv [] hp :=
  fun _ _ _ a1 a2 _ => W.widen h1 h2 (W.vret C.1 C.2.1 hr (fun t ht _ => ⟨⟨_, _, rfl, hq, by rw [ht]; exact a1⟩, a2.F ht⟩) a2.2.2 hd C.2.2.2.2.2.2.1)
theorem z_aret (C : z_C p s m args meth c cc nL own G base) {n : String} {x : Option Nat} (hr : meth.sig.returnType = some (.object n)) (hd : decode cc pc = .ok (.areturn, 1)) (h1 : cells ≤ mc) (h2 : slots ≤ ms) (hq : post (some (va_rf x)) hp) : z_R p l e R s m args below meth c (MQ below (z_Qc G base post) args s mc ms (fun q => base ≤ q)) G base nL cells slots pc lv [va_rf x] hp :=
  fun _ _ _ a1 a2 _ => W.widen h1 h2 (W.aret C.1 C.2.1 hr (Or.inl ⟨n, rfl⟩) (va_rf_or x) (fun t ht _ => ⟨⟨_, _, rfl, hq, by rw [ht]; exact a1⟩, a2.F ht⟩) a2.2.2 hd C.2.2.2.2.2.2.1)
/-- a contract out of a walk -/
theorem z_M.of {y : MethodName} {bc : ByteArray} {mL d mc ms : Nat} {rt : Option FieldType} {as : List Value} {lv0 : List (Nat × Value)} (hy : plainName y.cls = true) (hlen : (lg_sl as).length ≤ mL) (hlv : lv_args 0 as = lv0)
    (body : ∀ (p : Program) (e : Env) (s : State) (m : MethodId) (below : List Frame) (meth : Method) (c : Code), meth.name = y.name → meth.sig.returnType = rt → z_C p s m as.toArray meth c bc mL y.cls G base →
      z_R p l e (z_rm d mc ms) s m as.toArray below meth c (MQ below (z_Qc G base post) as.toArray s mc ms (fun q => base ≤ q)) G base mL 0 0 0 lv0 [] hp) : z_M l G base y bc mL rt d mc ms as hp post := by
  subst hlv
  refine Met.ofW (cc := bc) (maxL := mL) (ret := rt) hy rfl ?_
  intro p e s m args below meth c s₁ B hml hv
  obtain ⟨rfl, hH, hK⟩ := hv
  have hts := atoms_spec (ws := Cond.code y bc mL rt :: z_W) B.pre
  have hC : z_C p s m as.toArray meth c bc mL y.cls G base := ⟨B.exec, B.bytes, hml, findClass_of_methodNamed B.named, fun w hw => hts w (List.mem_cons_of_mem _ hw), hK, B.notSynchronized, by rw [hH.1]; exact Nat.le_add_right _ _⟩
  have hl := lv_entry as (n := mL) hlen
  rw [lg_entry_eq]
  exact body p e s m below meth c (name_of_methodNamed B.named B.method).1 B.returns hC s.heap [] _ hH va_S.rf hl
end ZR4
