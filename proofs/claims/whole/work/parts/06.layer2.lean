section ZR2
variable {p : Program} {l : Launch} {e : Env} {R : Room} {s : State} {m : MethodId} {args : Array Value} {below : List Frame} {meth : Method} {c : Code} {Q : State → Prop} {cc : ByteArray} {own : String} {G : z_G} {base nL cells slots pc : Nat} {lv : List (Nat × Value)} {st : List Value} {hp : List va_E}
theorem z_one {G : z_G} {base i : Nat} {e : va_E} {hp : List va_E} {H : Heap} (h1 : z_H G base hp H) (he : hp[i]? = some e) : va_P G.1 vwCl [(base + i, e)] H := fun a q hq => by
  cases a with
  | zero => cases hq; exact h1.2 i _ he
  | succ a => cases hq
theorem z_own {G : z_G} {base i : Nat} {e : va_E} : va_D (fun q => base ≤ q) [(base + i, e)] := by
  refine ⟨fun a b p q ha hb _ => ?_, fun a q hq => ?_⟩
  · cases a with
    | zero => cases b with
      | zero => rfl
      | succ b => cases hb
    | succ a => cases ha
  · cases a with
    | zero => cases hq; exact Nat.le_add_right _ _
    | succ a => cases hq
theorem z_iald (C : z_C p s m args meth c cc nL own G base) {i n : Nat} {f : Nat → Int32} {j : Int32} (hd : decode cc pc = .ok (.iaload, 1)) (he : hp[i]? = some (.inl (G.2 0, n, .inl f))) (hin : vp_in j n) (kk : z_R p l e R s m args below meth c Q G base nL cells slots (pc + 1) lv (.int (f j.toNatClampNeg) :: st) hp) : z_R p l e R s m args below meth c Q G base nL cells slots pc lv (.int j :: .ref (base + i) :: st) hp :=
  fun H locs ls h1 h2 h3 => va_iald C.1 C.2.1 C.2.2.2.2.2.1.1 (z_one h1 he) 0 0 rfl rfl hin hd (kk H locs ls h1 h2 h3)
theorem z_zald (C : z_C p s m args meth c cc nL own G base) {i n : Nat} {f : Nat → Int32} {j : Int32} (hd : decode cc pc = .ok (.baload, 1)) (he : hp[i]? = some (.inl (G.2 2, n, .inl f))) (hin : vp_in j n) (kk : z_R p l e R s m args below meth c Q G base nL cells slots (pc + 1) lv (.int (f j.toNatClampNeg) :: st) hp) : z_R p l e R s m args below meth c Q G base nL cells slots pc lv (.int j :: .ref (base + i) :: st) hp :=
  fun H locs ls h1 h2 h3 => va_zald C.1 C.2.1 C.2.2.2.2.2.1.1 (z_one h1 he) 0 2 rfl rfl hin hd (kk H locs ls h1 h2 h3)
theorem z_lald (C : z_C p s m args meth c cc nL own G base) {i n : Nat} {f : Nat → Int64} {j : Int32} (hd : decode cc pc = .ok (.laload, 1)) (he : hp[i]? = some (.inl (G.2 1, n, .inr (.inl f)))) (hin : vp_in j n) (kk : z_R p l e R s m args below meth c Q G base nL cells slots (pc + 1) lv (.long (f j.toNatClampNeg) :: st) hp) : z_R p l e R s m args below meth c Q G base nL cells slots pc lv (.int j :: .ref (base + i) :: st) hp :=
  fun H locs ls h1 h2 h3 => va_lald C.1 C.2.1 C.2.2.2.2.2.1.1 (z_one h1 he) 0 1 rfl rfl hin hd (kk H locs ls h1 h2 h3)
theorem z_aald (C : z_C p s m args meth c cc nL own G base) {i n t : Nat} {Cn : String} {f : Nat → Option Nat} {j : Int32} (ht : (z_Ty G.2)[t]? = some (G.2 t, .object Cn)) (hd : decode cc pc = .ok (.aaload, 1)) (he : hp[i]? = some (.inl (G.2 t, n, .inr (.inr (.inr (.inr f)))))) (hin : vp_in j n) (kk : z_R p l e R s m args below meth c Q G base nL cells slots (pc + 1) lv (va_rf (f j.toNatClampNeg) :: st) hp) : z_R p l e R s m args below meth c Q G base nL cells slots pc lv (.int j :: .ref (base + i) :: st) hp :=
  fun H locs ls h1 h2 h3 => va_aldq C.1 C.2.1 C.2.2.2.2.2.1.1 (z_one h1 he) 0 t rfl ht hin hd (kk H locs ls h1 h2 h3)
theorem z_iast (C : z_C p s m args meth c cc nL own G base) {i n : Nat} {f : Nat → Int32} {j x : Int32} (hd : decode cc pc = .ok (.iastore, 1)) (he : hp[i]? = some (.inl (G.2 0, n, .inl f))) (hin : vp_in j n) (kk : z_R p l e R s m args below meth c Q G base nL cells slots (pc + 1) lv st (hp.set i (.inl (G.2 0, n, .inl (upd f j.toNatClampNeg x))))) : z_R p l e R s m args below meth c Q G base nL cells slots pc lv (.int x :: .int j :: .ref (base + i) :: st) hp := by
  intro H locs ls h1 h2 h3
  refine W.iast C.1 C.2.1 (h1.2 i _ he) ((C.2.2.2.2.2.1.1.2 0 _ rfl).1 n (fun j => .int (f j))) (fun q => by cases q) (by show ¬ (j < 0 ∨ (arrV _ _ _).slots.size ≤ _); rw [arrV_size]; exact hin) rfl rfl hd fun H1 e z oq => ?_
  refine kk H1 _ ls (h1.set z oq ?_) (h2.put z oq (Nat.le_add_right _ _)) h3
  show H1[base + i]? = some (vp_cell _ _)
  rw [e]
  rw [vp_cell_i, vp_cell_i, arrV_store]
  congr 2
  funext q
  by_cases hq : q = j.toNatClampNeg
  · subst hq
    simp [updV, upd]
  · simp [updV, upd, hq]
theorem z_zast (C : z_C p s m args meth c cc nL own G base) {i n : Nat} {f : Nat → Int32} {j x : Int32} (hd : decode cc pc = .ok (.bastore, 1)) (he : hp[i]? = some (.inl (G.2 2, n, .inl f))) (hin : vp_in j n) (kk : z_R p l e R s m args below meth c Q G base nL cells slots (pc + 1) lv st (hp.set i (.inl (G.2 2, n, .inl (upd f j.toNatClampNeg (vp_nar .boolean x)))))) : z_R p l e R s m args below meth c Q G base nL cells slots pc lv (.int x :: .int j :: .ref (base + i) :: st) hp := by
  intro H locs ls h1 h2 h3
  refine W.zast C.1 C.2.1 (h1.2 i _ he) ((C.2.2.2.2.2.1.1.2 2 _ rfl).1 n (fun j => .int (f j))) (fun q => by cases q) (by show ¬ (j < 0 ∨ (arrV _ _ _).slots.size ≤ _); rw [arrV_size]; exact hin) rfl rfl hd fun H1 e z oq => ?_
  refine kk H1 _ ls (h1.set z oq ?_) (h2.put z oq (Nat.le_add_right _ _)) h3
  show H1[base + i]? = some (vp_cell _ _)
  rw [e]
  rw [vp_cell_i, vp_cell_i, arrV_store]
  congr 2
  funext q
  by_cases hq : q = j.toNatClampNeg
  · subst hq
    simp [updV, upd, vp_nar, narrow]
  · simp [updV, upd, hq]
theorem z_last (C : z_C p s m args meth c cc nL own G base) {i n : Nat} {f : Nat → Int64} {j : Int32} {x : Int64} (hd : decode cc pc = .ok (.lastore, 1)) (he : hp[i]? = some (.inl (G.2 1, n, .inr (.inl f)))) (hin : vp_in j n) (kk : z_R p l e R s m args below meth c Q G base nL cells slots (pc + 1) lv st (hp.set i (.inl (G.2 1, n, .inr (.inl (vp_updL f j.toNatClampNeg x)))))) : z_R p l e R s m args below meth c Q G base nL cells slots pc lv (.long x :: .int j :: .ref (base + i) :: st) hp := by
  intro H locs ls h1 h2 h3
  refine W.last C.1 C.2.1 (h1.2 i _ he) ((C.2.2.2.2.2.1.1.2 1 _ rfl).1 n (fun j => .long (f j))) (fun q => by cases q) (by show ¬ (j < 0 ∨ (arrV _ _ _).slots.size ≤ _); rw [arrV_size]; exact hin) rfl rfl hd fun H1 e z oq => ?_
  refine kk H1 _ ls (h1.set z oq ?_) (h2.put z oq (Nat.le_add_right _ _)) h3
  show H1[base + i]? = some (vp_cell _ _)
  rw [e]
  rw [vp_cell_l, vp_cell_l, arrV_store]
  congr 2
  funext q
  by_cases hq : q = j.toNatClampNeg
  · subst hq
    simp [updV, vp_updL]
  · simp [updV, vp_updL, hq]
theorem z_aast (C : z_C p s m args meth c cc nL own G base) {i n t ci v : Nat} {r : vw_C} {vs : List Value} {f : Nat → Option Nat} {j : Int32} (hc : vwCl[ci]? = some r) (ht : (z_Ty G.2)[t]? = some (G.2 t, .object r.1)) (hd : decode cc pc = .ok (.aastore, 1)) (he : hp[i]? = some (.inl (G.2 t, n, .inr (.inr (.inr (.inr f)))))) (hv : hp[v]? = some (.inr (ci, vs))) (hin : vp_in j n) (kk : z_R p l e R s m args below meth c Q G base nL cells slots (pc + 1) lv st (hp.set i (.inl (G.2 t, n, .inr (.inr (.inr (.inr (va_up f j.toNatClampNeg (some (base + v)))))))))) : z_R p l e R s m args below meth c Q G base nL cells slots pc lv (.ref (base + v) :: .int j :: .ref (base + i) :: st) hp := by
  intro H locs ls h1 h2 h3
  have hK := C.2.2.2.2.2.1.1
  have hlt : j.toNatClampNeg < n := Nat.not_le.mp fun q => hin (Or.inr q)
  have h0 : ¬ j < 0 := fun q => hin (Or.inl q)
  obtain ⟨r', hr', cellV, g1, g2, g3, -⟩ := h1.2 v _ hv
  have hcls := (hK.1 ci r hc).2
  obtain ⟨kA, comp, k1, k2, k3, -⟩ := (hK.2 t _ ht).2
  have hcomp : comp = G.1.1 ci := Option.some.inj (k3.symm.trans hcls.1)
  subst hcomp
  have hcls' := hcls
  obtain ⟨kC, hkC, -⟩ := hcls.2
  refine W.aast C.1 C.2.1 (h1.2 i _ he) (fun q h => by cases h) (fun h => by cases h) k1 k2 rfl hkC ⟨h0, by show _ < (arrV _ _ _).slots.size; rw [arrV_size]; exact hlt⟩ g1 (fun q h => by rw [g3] at h; cases h) (by rw [g2]; exact hkC) (by rw [g2]; exact va_assign hcls') rfl rfl hd fun H1 e z oq => ?_
  refine kk H1 _ ls (h1.set z oq ?_) (h2.put z oq (Nat.le_add_right _ _)) h3
  show H1[base + i]? = some (vp_cell _ _)
  rw [e]
  rw [vp_cell_q, vp_cell_q, arrV_store]
  congr 2
  funext q
  by_cases hq : q = j.toNatClampNeg
  · subst hq
    simp [updV, va_up, va_rf]
  · simp [updV, va_up, hq]
theorem z_newa (C : z_C p s m args meth c cc nL own G base) {atype : ArrayType} {t : Nat} {n : Int32} {N : Nat} {ty : FieldType} {a0 : vp_A} (hty : newarray.typeOf atype = ty) (hpr : refKind ty = false) (hw : Cond.arrayClass ty ∈ z_W) (ht : (z_Ty G.2)[t]? = some (G.2 t, ty)) (ha : ∀ cA : ClassId, vp_cell cA a0 = arrV cA N (fun _ => defaultValue ty)) (hd : decode cc pc = .ok (.newarray atype, 2)) (hn : ¬ n < 0) (hN : n.toNatClampNeg = N) (hby : N * componentBytes ty ≤ 536870912) (hcells : cells + 1 ≤ R.cells) (hslots : slots + N ≤ R.slots)
    (kk : z_R p l e R s m args below meth c Q G base nL (cells + 1) (slots + N) (pc + 2) lv (.ref (base + hp.length) :: st) (hp ++ [.inl (G.2 t, a0)])) : z_R p l e R s m args below meth c Q G base nL cells slots pc lv (.int n :: st) hp := by
  intro H locs ls h1 h2 h3
  subst hty
  refine va_newaK C.1 C.2.1 (C.2.2.2.2.1 _ hw) (g := F0 m pc ls (.int n :: st)) rfl hd rfl hn hN hby hcells hslots (h := base + hp.length) h1.1 fun H' cA e1 e2 e3 e4 e5 => ?_
  have hcA : cA = G.2 t := by
    have h9 := (C.2.2.2.2.2.1.1.2 t _ ht).2
    have h8 : s.vm.findClass ("[" ++ (newarray.typeOf atype).toString) = some (G.2 t) := by
      cases hq : newarray.typeOf atype <;> rw [hq] at h9 hpr <;> first | exact h9 | cases hpr
    exact Option.some.inj (e5.symm.trans h8)
  subst hcA
  refine kk H' locs ls (h1.push (by rw [e2, h1.1]) (fun q hq => e3 q (by rw [← h1.1]; exact hq)) ?_) ⟨by rw [e2, ← h1.1]; exact Nat.le_trans h2.1 (Nat.le_succ _), fun q hq hA => by rw [e3 q (by rw [← h1.1]; exact Nat.lt_of_lt_of_le hq h2.1)]; exact h2.2.1 q hq hA, h2.2.2⟩ h3
  show H'[base + hp.length]? = some (vp_cell _ _)
  rw [ha, e1]
theorem z_anew (C : z_C p s m args meth c cc nL own G base) {idx t : Nat} {Cn : String} {n : Int32} {N : Nat} (hw : Cond.classLink own idx Cn ∈ z_W) (hov : va_AO Cn s) (ht : (z_Ty G.2)[t]? = some (G.2 t, .object Cn)) (hd : decode cc pc = .ok (.anewarray idx, 3)) (hn : ¬ n < 0) (hN : n.toNatClampNeg = N) (hby : N * 4 ≤ 536870912) (hcells : cells + 1 ≤ R.cells) (hslots : slots + N ≤ R.slots)
    (kk : z_R p l e R s m args below meth c Q G base nL (cells + 1) (slots + N) (pc + 3) lv (.ref (base + hp.length) :: st) (hp ++ [.inl (G.2 t, N, .inr (.inr (.inr (.inr (fun _ => none)))))])) : z_R p l e R s m args below meth c Q G base nL cells slots pc lv (.int n :: st) hp := by
  intro H locs ls h1 h2 h3
  subst hN
  refine W.anew C.1 C.2.1 C.2.2.2.1 (C.2.2.2.2.1 _ hw) hov.use (g := F0 m pc ls (.int n :: st)) rfl hd rfl hn hby hcells hslots fun cA kA comp e1 e2 e3 e4 => ?_
  have hcA : cA = G.2 t := by
    obtain ⟨kA', comp', -, -, -, h9⟩ := (C.2.2.2.2.2.1.1.2 t _ ht).2
    exact Option.some.inj (e1.symm.trans h9)
  subst hcA
  have hsz : H.size = base + hp.length := h1.1
  rw [hsz]
  refine kk _ locs ls (h1.push (by simp) (fun q hq => by rw [Array.getElem?_push, if_neg (Nat.ne_of_lt hq)]) ?_) ⟨by rw [Array.size_push]; exact Nat.le_trans h2.1 (Nat.le_succ _), fun q hq hA => by rw [Array.getElem?_push, if_neg (Nat.ne_of_lt (Nat.lt_of_lt_of_le hq h2.1))]; exact h2.2.1 q hq hA, h2.2.2⟩ h3
  show (H.push _)[base + hp.length]? = some (vp_cell _ _)
  rw [vp_cell_q, ← hsz, Array.getElem?_push_size]
  congr 1
  unfold arrV
  congr 1
  apply Array.ext
  · simp
  · intro i a b
    simp [va_rf]
theorem z_new (C : z_C p s m args meth c cc nL own G base) {idx ci N : Nat} {Cn : String} {T : u_T} {ty : Nat → FieldType} {fs : List Value} (hc : vwCl[ci]? = some (Cn, T, N)) (hin : ∀ w ∈ u_ws Cn T N, w ∈ z_W) (hty : ∀ k, k < N → parseFieldDescriptor (T k).2.2.1 = some (ty k)) (hw : Cond.classLink own idx Cn ∈ z_W) (hw2 : Cond.instantiable Cn N ∈ z_W) (hw3 : Cond.initialized Cn ∈ z_W) (hfs : ∀ j, j < N → defaultValue (ty j) = vp_V fs j) (hd : decode cc pc = .ok (.new idx, 3)) (hcells : cells + 1 ≤ R.cells) (hslots : slots + N ≤ R.slots)
    (kk : z_R p l e R s m args below meth c Q G base nL (cells + 1) (slots + N) (pc + 3) lv (.ref (base + hp.length) :: st) (hp ++ [.inr (ci, fs)])) : z_R p l e R s m args below meth c Q G base nL cells slots pc lv st hp := by
  intro H locs ls h1 h2 h3
  have hts := C.2.2.2.2.1
  have hKn := C.2.2.2.2.2.1.1.1 ci _ hc
  refine W.newcK C.1 C.2.1 C.2.2.2.1 (hts _ hw) (hts _ hw2) (hts _ hw3) (g := F0 m pc ls st) rfl hd hcells hslots hKn.2.1 h1.1 fun H1 kC hkC e1 z1 o1 => ?_
  exact kk H1 locs ls (h1.push (by rw [z1, h1.1]) (fun q hq => o1 q (by rw [← h1.1]; exact hq)) ⟨_, hc, (u_born ty hts hin hKn hkC e1 hty).to hfs⟩) ⟨by rw [z1, ← h1.1]; exact Nat.le_trans h2.1 (Nat.le_succ _), fun q hq hA => (o1 q (by rw [← h1.1]; exact Nat.lt_of_lt_of_le hq h2.1)).trans (h2.2.1 q hq hA), h2.2.2⟩ h3
end ZR2
