/-! THE CLAIM OUT OF ONE WALK OF THE LAW'S BODY. Your part is whole_start (and what it stands on); all else here is the same for every law, but numbers. -/
def R_law : String := "PageSlabsLaw"
def lw_P (b : Addr) (xs : List Int32) (args : Array Value) (s : State) : Prop := args = #[.ref b] ∧ s.IntsAt b xs ∧ xs.length ≤ 1536 ∧ (Jvm.Cond.and given_1 narrow_1).before args s = true
def lw_Q (_ : Array Value) (s : State) (o : Outcome) (t : State) : Prop := o = .returned (some (.int 1)) ∧ Framed s o t [] 600000 7302250
def lw_Z (below : List Frame) (a : Array Value) (s : State) : State → Prop := fun t => ∃ o, t.status = .running ∧ Ended t below o ∧ lw_Q a s o t
/-- the law's own end, with 1 on the stack, nothing written that was there before, its room as the claim has it -/
theorem lw_ret {p : Program} {l : Launch} {e : Env} {s : State} {m : MethodId} {below : List Frame} {meth : Method} {c : Code} {b : Nat} (hx : p.tables.exec = Jvm.exec) (hb : c.code = code) (hr : meth.sig.returnType = ret) (hlocks : meth.locks = false) {pc : Nat} {H : Heap} {ls : Array Slot} (hdg : decode code pc = .ok (.ireturn, 1)) : W p l e room_1 s m #[Value.ref b] below meth c H [] 600000 7302250 (lw_Z below #[Value.ref b] s) (F0 m pc ls [.int 1]) := by
  intro T hT X
  obtain ⟨fs, hret, hrun, hended, hW, hframe⟩ := X.leave (v := some (.int 1)) (hlocks := hlocks) (fun h => by rw [hr] at h; cases h)
  have hmeth' : T.vm.method? m = some meth := X.method'
  refine ⟨T.setFrames fs, ?_, .returned (some (.int 1)), hrun, hended, rfl, ⟨_, rfl⟩, hW, hframe⟩
  jvm_step X.here [X.here.top, hx, hb, hdg, hmeth', hr, ret, narrow_b1]
  (try refine ⟨rfl, ?_⟩); (try refine ⟨rfl, ?_⟩)
  first | (intro acts; rw [hret _ acts rfl rfl rfl]) | rw [hret _ _ rfl rfl rfl]
  exact Steps.refl _
/-- what holds at the law's entry: the machine, the code, the tables' words (any of lw_tbl by 'hts w (by decide +kernel)'), the script of L ints xs at the cell b, what the Statement gives of the start (any of its parts by flat_of_before) -/
def lw_At (p : Program) (s : State) (m : MethodId) (meth : Method) (c : Code) (b L : Nat) (xs : Nat → Int32) : Prop :=
  p.tables.exec = Jvm.exec ∧ c.code = code ∧ meth.sig.returnType = ret ∧ c.maxLocals = 4 ∧ s.vm.findClass R_law = some m.cls ∧ (∀ w ∈ lw_tbl, w.before #[Value.ref b] s = true) ∧ va_X b L xs s s.heap ∧ b < s.heap.size ∧ meth.locks = false ∧ (Jvm.Cond.and given_1 narrow_1).before #[Value.ref b] s = true
theorem z_N_in : ∀ w ∈ z_N, w ∈ lw_tbl := by decide +kernel
theorem z_N_on : ∀ w ∈ z_N, w.onTables = true := by decide +kernel
/-- the classes that the law's start knows -/
theorem z_K_of {s : State} {A : Array Value} (hts : ∀ w ∈ lw_tbl, w.before A s = true) : ∃ G : z_G, z_K G s := by
  have hz : ∀ w ∈ z_W, w.before A s = true := fun w h => hts w (List.mem_filter.mp h).1
  obtain ⟨c0, i0, k0⟩ := u_known (C := RX0) (T := TX0) (N := 12) (n := 12) hz iw_X0 (hz _ iq_X0)
  obtain ⟨c1, i1, k1⟩ := u_known (C := RX1) (T := TX1) (N := 9) (n := 9) hz iw_X1 (hz _ iq_X1)
  obtain ⟨c2, i2, k2⟩ := u_known (C := RX2) (T := TX2) (N := 1) (n := 1) hz iw_X2 (hz _ iq_X2)
  obtain ⟨c3, i3, k3⟩ := u_known (C := RX3) (T := TX3) (N := 4) (n := 4) hz iw_X3 (hz _ iq_X3)
  obtain ⟨c4, i4, k4⟩ := u_known (C := RX4) (T := TX4) (N := 5) (n := 5) hz iw_X4 (hz _ iq_X4)
  obtain ⟨c5, i5, k5⟩ := u_known (C := RX5) (T := TX5) (N := 20) (n := 20) hz iw_X5 (hz _ iq_X5)
  obtain ⟨a0, ka0, co0, f0, g0, h0⟩ := Cond.arrayClass_spec (hz _ ac_int)
  obtain ⟨a1, ka1, co1, f1, g1, h1⟩ := Cond.arrayClass_spec (hz _ ac_long)
  obtain ⟨a2, ka2, co2, f2, g2, h2⟩ := Cond.arrayClass_spec (hz _ ac_boolean)
  have ao3 := hts (.arrayOver (.object "PageSlabs$Slab")) (by decide +kernel)
  obtain ⟨co3, a3, ka3, e3, j3, g3, h3, f3⟩ := Cond.arrayOver_spec ao3
  have ao4 := hts (.arrayOver (.object "PageSlabs$Cache")) (by decide +kernel)
  obtain ⟨co4, a4, ka4, e4, j4, g4, h4, f4⟩ := Cond.arrayOver_spec ao4
  refine ⟨((fun k => if k = 0 then c0 else if k = 1 then c1 else if k = 2 then c2 else if k = 3 then c3 else if k = 4 then c4 else c5, fun k => if k = 0 then i0 else if k = 1 then i1 else if k = 2 then i2 else if k = 3 then i3 else if k = 4 then i4 else i5), fun k => if k = 0 then a0 else if k = 1 then a1 else if k = 2 then a2 else if k = 3 then a3 else a4), ⟨?_, ?_⟩, fun w hw => va_Nw.of (z_N_on w hw) (hts w (z_N_in w hw)), va_AO.of ao3, va_AO.of ao4⟩
  · intro k q hq
    match k, hq with
    | 0, hq => cases hq; exact k0
    | 1, hq => cases hq; exact k1
    | 2, hq => cases hq; exact k2
    | 3, hq => cases hq; exact k3
    | 4, hq => cases hq; exact k4
    | 5, hq => cases hq; exact k5
    | k + 6, hq => simp [vwCl] at hq
  · intro k q hq
    match k, hq with
    | 0, hq => cases hq; exact ⟨fun N z => ⟨(fun k h => by cases h), ka0, g0, co0, h0⟩, f0⟩
    | 1, hq => cases hq; exact ⟨fun N z => ⟨(fun k h => by cases h), ka1, g1, co1, h1⟩, f1⟩
    | 2, hq => cases hq; exact ⟨fun N z => ⟨(fun k h => by cases h), ka2, g2, co2, h2⟩, f2⟩
    | 3, hq => cases hq; exact ⟨fun N z => ⟨(fun k h => by cases h), ka3, g3, co3, h3⟩, ka3, co3, g3, h3, e3, f3⟩
    | 4, hq => cases hq; exact ⟨fun N z => ⟨(fun k h => by cases h), ka4, g4, co4, h4⟩, ka4, co4, g4, h4, e4, f4⟩
    | k + 5, hq => simp [z_Ty] at hq
section
variable {p : Program} {l : Launch} {e : Env} {s : State} {m : MethodId} {below : List Frame} {meth : Method} {c : Code} {G : z_G} {b L : Nat} {xs : Nat → Int32}
set_option maxHeartbeats 4000000 in
set_option maxRecDepth 100000 in
/-- THE LOOP: k calls made, class and reference agree -/
theorem lw_loop (hL : L ≤ 1536) (C : z_C p s m #[Value.ref b] meth c cL_law 4 RL G s.heap.size) (hX : va_X b L xs s s.heap) (hbl : b < s.heap.size) (hr : meth.sig.returnType = ret) :
    ∀ (n k : Nat) (r : r_T) (hp : List va_E), 3 * k ≤ L → L + 3 ≤ 3 * k + 3 * n → KK G s.heap.size r r hp → z_R p l e room_1 s m #[Value.ref b] below meth c (lw_Z below #[Value.ref b] s) G s.heap.size 4 (30 + 2 * k) (37547 + 68 * k) 18 [(3, .int (nI (3 * k))), (2, .ref (s.heap.size + 16)), (1, .ref (s.heap.size + 0)), (0, .ref b)] [] hp := by
  intro n
  induction n with
  | zero => intro k r hp h1 h2; exact absurd h2 (by omega)
  | succ n ih =>
    intro k r hp hk hn hK
    have hcb : 30 + 2 * k + 2 ≤ room_1.cells := Nat.le_trans (show _ ≤ 600000 by omega) (Nat.le_of_ble_eq_true rfl)
    have hsb : 37547 + 68 * k + 68 ≤ room_1.slots := Nat.le_trans (show _ ≤ 7302250 by omega) (Nat.le_of_ble_eq_true rfl)
    refine z_iload_n C dL_law_18 rfl 0 rfl ?_
    refine z_aload_n C dL_law_19 rfl 3 rfl ?_
    refine z_slen C hX hbl hbl dL_law_20 ?_
    refine z_iconst (v := 3) C dL_law_21 (by decide) ?_
    refine z_isub C dL_law_22 ?_
    refine z_icmp_gt (tgt := 671) C dL_law_23 (by decide) (fun _ => ?_) (fun h23 => ?_)
    · refine z_iconst (v := 1) C dL_law_671 (by decide) ?_
      intro H locs ls h1 h2 h3
      refine va_forget (fun q hq => h2.2.2 q hq) ?_
      refine W.widen (k := 600000) (n := 7302250) (by omega) (by omega) ?_
      exact lw_ret C.1 C.2.1 hr C.2.2.2.2.2.2.1 dL_law_672
    · have hi : 3 * k + 3 ≤ L := by
        rcases Nat.lt_or_ge L 3 with z | z
        · exfalso
          have k0 : k = 0 := by omega
          subst k0
          rcases (show L = 0 ∨ L = 1 ∨ L = 2 by omega) with rfl | rfl | rfl <;> exact h23 (by decide)
        · rw [show nI L - 3 = nI (L - 3) from pk_sub (b := 3) z] at h23
          have := nI_leN (by omega) (Int32.not_lt.mp h23)
          omega
      refine z_aload_n C dL_law_26 rfl 3 rfl ?_
      refine z_iload_n C dL_law_27 rfl 0 rfl ?_
      refine z_sld C hX hbl hbl (i := 3 * k) (by omega) hL dL_law_28 ?_
      refine z_bipush (v := 31) C dL_law_29 (by decide) ?_
      refine z_iand C dL_law_31 ?_
      have kk : ∀ r' hp', KK G s.heap.size r' r' hp' → z_R p l e room_1 s m #[Value.ref b] below meth c (lw_Z below #[Value.ref b] s) G s.heap.size 4 (30 + 2 * k + 2) (37547 + 68 * k + 68) 665 [(3, .int (nI (3 * k))), (2, .ref (s.heap.size + 16)), (1, .ref (s.heap.size + 0)), (0, .ref b)] [] hp' := by
        intro r' hp' hK'
        refine z_iinc (k := 0) (v := nI (3 * (k + 1))) (lv' := [(3, .int (nI (3 * (k + 1)))), (2, .ref (s.heap.size + 16)), (1, .ref (s.heap.size + 0)), (0, .ref b)]) C dL_law_665 rfl (nI_add (3 * k) 3) (by decide) rfl ?_
        refine z_goto (tgt := 18) C dL_law_668 (by decide) ?_
        refine z_wid (k := 30 + 2 * (k + 1)) (n := 37547 + 68 * (k + 1)) (by omega) (by omega) ?_
        exact ih (k + 1) r' hp' (by omega) (by omega) hK'
      rcases tab21 (xs (3 * k) &&& 31) with hto | ⟨j, hj, hx⟩
      · exact z_tabOut (tgt := 665) C dL_law_32 hto (by decide) (z_wid (Nat.le_add_right _ _) (Nat.le_add_right _ _) (kk r hp hK))
      · refine z_casti hx ?_
        clear hx
        rcases (show j = 0 ∨ j = 1 ∨ j = 2 ∨ j = 3 ∨ j = 4 ∨ j = 5 ∨ j = 6 ∨ j = 7 ∨ j = 8 ∨ j = 9 ∨ j = 10 ∨ j = 11 ∨ j = 12 ∨ j = 13 ∨ j = 14 ∨ j = 15 ∨ j = 16 ∨ j = 17 ∨ j = 18 ∨ j = 19 ∨ j = 20 by omega) with rfl | rfl | rfl | rfl | rfl | rfl | rfl | rfl | rfl | rfl | rfl | rfl | rfl | rfl | rfl | rfl | rfl | rfl | rfl | rfl | rfl
        · exact z_tabIn (off := 100) (tgt := 132) C dL_law_32 (by decide) (by decide) (by decide) (by decide) (lc_0 C hX hbl hbl hL (by omega) hK hcb hsb kk)
        · exact z_tabIn (off := 133) (tgt := 165) C dL_law_32 (by decide) (by decide) (by decide) (by decide) (lc_1 C hX hbl hbl hL (by omega) hK hcb hsb kk)
        · exact z_tabIn (off := 146) (tgt := 178) C dL_law_32 (by decide) (by decide) (by decide) (by decide) (lc_2 C hX hbl hbl hL (by omega) hK hcb hsb kk)
        · exact z_tabIn (off := 169) (tgt := 201) C dL_law_32 (by decide) (by decide) (by decide) (by decide) (lc_3 C hX hbl hbl hL (by omega) hK hcb hsb kk)
        · exact z_tabIn (off := 192) (tgt := 224) C dL_law_32 (by decide) (by decide) (by decide) (by decide) (lc_4 C hX hbl hbl hL (by omega) hK hcb hsb kk)
        · exact z_tabIn (off := 225) (tgt := 257) C dL_law_32 (by decide) (by decide) (by decide) (by decide) (lc_5 C hX hbl hbl hL (by omega) hK hcb hsb kk)
        · exact z_tabIn (off := 248) (tgt := 280) C dL_law_32 (by decide) (by decide) (by decide) (by decide) (lc_6 C hX hbl hbl hL (by omega) hK hcb hsb kk)
        · exact z_tabIn (off := 281) (tgt := 313) C dL_law_32 (by decide) (by decide) (by decide) (by decide) (lc_7 C hX hbl hbl hL (by omega) hK hcb hsb kk)
        · exact z_tabIn (off := 304) (tgt := 336) C dL_law_32 (by decide) (by decide) (by decide) (by decide) (lc_8 C hX hbl hbl hL (by omega) hK hcb hsb kk)
        · exact z_tabIn (off := 327) (tgt := 359) C dL_law_32 (by decide) (by decide) (by decide) (by decide) (lc_9 C hX hbl hbl hL (by omega) hK hcb hsb kk)
        · exact z_tabIn (off := 350) (tgt := 382) C dL_law_32 (by decide) (by decide) (by decide) (by decide) (lc_10 C hX hbl hbl hL (by omega) hK hcb hsb kk)
        · exact z_tabIn (off := 383) (tgt := 415) C dL_law_32 (by decide) (by decide) (by decide) (by decide) (lc_11 C hX hbl hbl hL (by omega) hK hcb hsb kk)
        · exact z_tabIn (off := 406) (tgt := 438) C dL_law_32 (by decide) (by decide) (by decide) (by decide) (lc_12 C hX hbl hbl hL (by omega) hK hcb hsb kk)
        · exact z_tabIn (off := 429) (tgt := 461) C dL_law_32 (by decide) (by decide) (by decide) (by decide) (lc_13 C hX hbl hbl hL (by omega) hK hcb hsb kk)
        · exact z_tabIn (off := 462) (tgt := 494) C dL_law_32 (by decide) (by decide) (by decide) (by decide) (lc_14 C hX hbl hbl hL (by omega) hK hcb hsb kk)
        · exact z_tabIn (off := 485) (tgt := 517) C dL_law_32 (by decide) (by decide) (by decide) (by decide) (lc_15 C hX hbl hbl hL (by omega) hK hcb hsb kk)
        · exact z_tabIn (off := 508) (tgt := 540) C dL_law_32 (by decide) (by decide) (by decide) (by decide) (lc_16 C hX hbl hbl hL (by omega) hK hcb hsb kk)
        · exact z_tabIn (off := 531) (tgt := 563) C dL_law_32 (by decide) (by decide) (by decide) (by decide) (lc_17 C hX hbl hbl hL (by omega) hK hcb hsb kk)
        · exact z_tabIn (off := 554) (tgt := 586) C dL_law_32 (by decide) (by decide) (by decide) (by decide) (lc_18 C hX hbl hbl hL (by omega) hK hcb hsb kk)
        · exact z_tabIn (off := 577) (tgt := 609) C dL_law_32 (by decide) (by decide) (by decide) (by decide) (lc_19 C hX hbl hbl hL (by omega) hK hcb hsb kk)
        · exact z_tabIn (off := 610) (tgt := 642) C dL_law_32 (by decide) (by decide) (by decide) (by decide) (lc_20 C hX hbl hbl hL (by omega) hK hcb hsb kk)
set_option maxHeartbeats 4000000 in
set_option maxRecDepth 100000 in
/-- from the entry to the loop -/
theorem lw_go (hL : L ≤ 1536) (C : z_C p s m #[Value.ref b] meth c cL_law 4 RL G s.heap.size) (hX : va_X b L xs s s.heap) (hbl : b < s.heap.size) (hr : meth.sig.returnType = ret) : z_R p l e room_1 s m #[Value.ref b] below meth c (lw_Z below #[Value.ref b] s) G s.heap.size 4 0 0 0 [(0, .ref b)] [] [] := by
  refine z_new (ci := 4) (N := 5) (fs := [.null, .null, .null, .null, .int 0]) C rfl iw_X4 tyX4_ok ck_L_7 iq_X4 in_X4 (fun j hj => by rcases (show j = 0 ∨ j = 1 ∨ j = 2 ∨ j = 3 ∨ j = 4 by omega) with rfl | rfl | rfl | rfl | rfl <;> rfl) dL_law_0 (by decide) (by decide) ?_
  refine z_hp (hp' := [.inr (4, [.null, .null, .null, .null, .int 0])]) rfl ?_
  refine z_st (st' := [.ref (s.heap.size + 0)]) rfl ?_
  refine z_dup C dL_law_3 rfl ?_
  refine z_callI (rest := [.ref (s.heap.size + 0)]) C (m_X4_init l G s.heap.size) ml_L_9 kw_X4_init rfl rfl (by simp [Value.category]) dL_law_4 (by decide) (by decide) (by decide) (by decide) ?_
  rintro _ _ ⟨rfl, rfl⟩
  refine z_st (st' := [.ref (s.heap.size + 0)]) rfl ?_
  refine z_astore_n (lv' := [(1, .ref (s.heap.size + 0)), (0, .ref b)]) C dL_law_7 rfl (by decide) rfl ?_
  refine z_new (ci := 5) (N := 20) (fs := [.null, .int 0, .null, .null, .null, .null, .null, .null, .null, .int 0, .null, .null, .null, .null, .null, .int 0, .int 0, .int 0, .int 0, .int 0]) C rfl iw_X5 tyX5_ok ck_L_10 iq_X5 in_X5 (fun j hj => by rcases (show j = 0 ∨ j = 1 ∨ j = 2 ∨ j = 3 ∨ j = 4 ∨ j = 5 ∨ j = 6 ∨ j = 7 ∨ j = 8 ∨ j = 9 ∨ j = 10 ∨ j = 11 ∨ j = 12 ∨ j = 13 ∨ j = 14 ∨ j = 15 ∨ j = 16 ∨ j = 17 ∨ j = 18 ∨ j = 19 by omega) with rfl | rfl | rfl | rfl | rfl | rfl | rfl | rfl | rfl | rfl | rfl | rfl | rfl | rfl | rfl | rfl | rfl | rfl | rfl | rfl <;> rfl) dL_law_8 (by decide) (by decide) ?_
  refine z_hp (hp' := [xs_c G s.heap.size 0, xs_c G s.heap.size 1, xs_c G s.heap.size 2, xs_c G s.heap.size 3, xs_c G s.heap.size 4, xs_c G s.heap.size 5, xs_c G s.heap.size 6, xs_c G s.heap.size 7, xs_c G s.heap.size 8, xs_c G s.heap.size 9, xs_c G s.heap.size 10, xs_c G s.heap.size 11, xs_c G s.heap.size 12, xs_c G s.heap.size 13, xs_c G s.heap.size 14, xs_c G s.heap.size 15, .inr (5, [.null, .int 0, .null, .null, .null, .null, .null, .null, .null, .int 0, .null, .null, .null, .null, .null, .int 0, .int 0, .int 0, .int 0, .int 0])]) rfl ?_
  refine z_st (st' := [.ref (s.heap.size + 16)]) rfl ?_
  refine z_dup C dL_law_11 rfl ?_
  refine z_callI (rest := [.ref (s.heap.size + 16)]) C (m_X5_init l G s.heap.size (xs_c G s.heap.size)) ml_L_12 kw_X5_init rfl rfl (by simp [Value.category]) dL_law_12 (by decide) (by decide) (by decide) (by decide) ?_
  rintro _ _ ⟨rfl, rfl⟩
  refine z_st (st' := [.ref (s.heap.size + 16)]) rfl ?_
  refine z_astore_n (lv' := [(2, .ref (s.heap.size + 16)), (1, .ref (s.heap.size + 0)), (0, .ref b)]) C dL_law_15 rfl (by decide) rfl ?_
  refine z_iconst (v := 0) C dL_law_16 (by decide) ?_
  refine z_istore_n (lv' := [(3, .int 0), (2, .ref (s.heap.size + 16)), (1, .ref (s.heap.size + 0)), (0, .ref b)]) C dL_law_17 rfl (by decide) rfl ?_
  refine z_wid (k := 30 + 2 * 0) (n := 37547 + 68 * 0) (by decide) (by decide) ?_
  exact lw_loop hL C hX hbl hr (L + 1) 0 (r_ini 6) _ (by omega) (by omega) (KK_0 G s.heap.size)
end
/-- THE LAW, from its entry -/
theorem whole_start {p : Program} {e : Env} {s : State} {m : MethodId} {below : List Frame} {meth : Method} {c : Code} (l : Launch) {b L : Nat} {xs : Nat → Int32} (hL : L ≤ 1536) (C0 : lw_At p s m meth c b L xs) : W p l e room_1 s m #[Value.ref b] below meth c s.heap [] 0 0 (lw_Z below #[Value.ref b] s) (entryFrame m ([Value.ref b] : List Value).toArray 4) := by
  obtain ⟨hx, hb, hr, hml, hown, hts, hX, hbl, hlocks, hgv⟩ := C0
  obtain ⟨G, hK⟩ := z_K_of hts
  have C : z_C p s m #[Value.ref b] meth c cL_law 4 RL G s.heap.size := ⟨hx, hb, hml, hown, fun w h => hts w (List.mem_filter.mp h).1, hK, hlocks, Nat.le_refl _⟩
  have hl := lv_entry ([.ref b]) (n := 4) (Nat.le_of_ble_eq_true rfl)
  rw [lg_entry_eq]
  exact lw_go hL C hX hbl hr s.heap [] _ ⟨rfl, fun i e h => by simp at h⟩ va_S.rf hl
