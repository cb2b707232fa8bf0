set_option maxHeartbeats 4000000 in
set_option maxRecDepth 100000 in
theorem m_X3_init (l : Launch) (G : z_G) (base : Nat) (hp : List va_E) (i : Nat) (he : hp[i]? = some (.inr (3, [.null, .int 0, .int 0, .long 0]))) : z_M l G base yX3_init cX3_init 1 none 1 1 64 [.ref (base + i)] hp (fun v hp' => v = none ∧ hp' = (hp ++ [q_aI G 64 (fun _ => 0)]).set i (q_oS hp.length 0 0 0 base)) := by
  refine z_M.of (lv0 := [(0, .ref (base + i))]) (by decide) (Nat.le_of_ble_eq_true rfl) rfl ?_
  intro p e s m below meth c hmn hrt C
  refine z_aload_n C dX3_init_0 rfl 0 rfl ?_
  refine z_objInit C ml_X3_3 im_obj kc_obj dX3_init_1 (by decide) (Nat.le_of_ble_eq_true rfl) ?_
  refine z_aload_n C dX3_init_4 rfl 0 rfl ?_
  refine z_bipush (v := 64) C dX3_init_5 (by decide) ?_
  refine z_newa (atype := .int) (ty := .int) (t := 0) (N := 64) (a0 := (64, .inl (fun p => nI ((fun _ => 0) p)))) C rfl rfl ac_int rfl (fun _ => rfl) dX3_init_7 (by decide) (by decide) (by decide) (by decide) (by decide) ?_
  refine z_putF C hmn fl_X3_9 fp_X3 rfl rfl dX3_init_9 (z_appl he) (by simp) rfl rfl ?_
  exact z_vret C hrt dX3_init_12 (by decide) (by decide) (⟨rfl, rfl⟩)

set_option maxHeartbeats 4000000 in
set_option maxRecDepth 100000 in
theorem m_X4_dropSlab (l : Launch) (G : z_G) (base : Nat) (sc td : Nat → Int32) (q : q_T) (nc : Nat) (cf : Nat → Nat → Int32) (pl : Nat → Nat) (S : Nat → Option s_T) (mem : Nat → Nat) (hp : List va_E) (hC : C_ok G base sc td q nc cf pl S mem hp) (kt ko kb : Nat → Nat) (hX : X_ok nc q cf S kt ko kb) (c0 : Nat) (hc0 : c0 < nc) (P : Nat) (hP : P < 256) (h1 : 1 ≤ q.1 P) : z_M l G base yX4_dropSlab cX4_dropSlab 3 none 3 0 0 [.ref (base + 0), .ref (base + (pl c0)), .int (nI P)] hp (fun v hp' => v = none ∧ C_ok G base (s_rel sc (q.1 P - 1)) td (q_rel q P) nc (va_up cf c0 (upd (cf c0) 6 (cf c0 6 - 1))) pl S mem hp' ∧ C_fr hp hp') := by
  refine z_M.of (lv0 := [(0, .ref (base + 0)), (1, .ref (base + (pl c0))), (2, .int (nI P))]) (by decide) (Nat.le_of_ble_eq_true rfl) rfl ?_
  intro p e s m below meth c hmn hrt C
  refine z_aload_n C dX4_dropSlab_0 rfl 1 rfl ?_
  refine z_dup C dX4_dropSlab_1 rfl ?_
  refine z_get C fl_X4_223 dX4_dropSlab_2 (hC.ca hc0) rfl ?_
  refine z_iconst (v := 1) C dX4_dropSlab_5 (by decide) ?_
  refine z_isub C dX4_dropSlab_6 ?_
  refine z_put C fl_X4_223 fp_X1 rfl dX4_dropSlab_7 (hC.ca hc0) (by simp) rfl rfl ?_
  refine z_hp (hp' := hp.set (pl c0) (q_oC (upd (cf c0) 6 (cf c0 6 - 1)))) (rfl) ?_
  have hC2 := hC.setc hc0 (upd (cf c0) 6 (cf c0 6 - 1))
  refine z_aload_n C dX4_dropSlab_10 rfl 0 rfl ?_
  refine z_get C fl_X4_19 dX4_dropSlab_11 hC2.1 rfl ?_
  refine z_iload_n C dX4_dropSlab_14 rfl 2 rfl ?_
  refine z_callV (rest := []) C (C_lift hC2 (fun xs tl => m_X0_release l G base xs sc td q tl hX.q hX.u P hP h1)) ml_X4_76 kw_X0_release hC2.2.2.2.1.1 rfl rfl rfl (by simp [Value.category]) dX4_dropSlab_15 (by decide) (by decide) (by decide) (by decide) ?_
  rintro _ hp3 ⟨rfl, hC3, hF3⟩
  refine z_st (st' := []) rfl ?_
  exact z_vret C hrt dX4_dropSlab_18 (by decide) (by decide) (⟨rfl, hC3, ((C_fr.rf hp).set (hC.cp hc0)).tr hF3⟩)

theorem va_up_sf {α : Type} {f : Nat → α} {k : Nat} {a : α} : va_up f k a k = a := va_up_self f k a

set_option maxHeartbeats 4000000 in
set_option maxRecDepth 100000 in
theorem m_X4_newSlab (l : Launch) (G : z_G) (base : Nat) (sc td : Nat → Int32) (q : q_T) (nc : Nat) (cf : Nat → Nat → Int32) (pl : Nat → Nat) (S : Nat → Option s_T) (mem : Nat → Nat) (hp : List va_E) (hC : C_ok G base sc td q nc cf pl S mem hp) (kt ko kb : Nat → Nat) (hX : X_ok nc q cf S kt ko kb) (c0 : Nat) (hc0 : c0 < nc) : z_M l G base yX4_newSlab cX4_newSlab 4 (some .int) 3 2 68 [.ref (base + 0), .ref (base + (pl c0))] hp (fun v hp' => ∃ x, v = some (.int x) ∧ ((j_take sc q (ko c0) = none ∧ x = -1 ∧ C_ok G base (s_miss (s_arm sc)) td q nc cf pl S mem hp' ∧ C_fr hp hp') ∨ ∃ P j r f, j_take sc q (ko c0) = some P ∧ P < 256 ∧ x = nI P ∧ (∀ i, i < kb c0 → f i = kb c0 - 1 - i) ∧ C_ok G base (s_got (s_arm sc) (ko c0)) td (q_got q P (ko c0) (2 + c0)) nc (va_up cf c0 (upd (cf c0) 6 (cf c0 6 + 1))) pl (va_up S P (some (j, r, kb c0, kb c0, f, 0))) mem hp' ∧ C_fr hp hp')) := by
  refine z_M.of (lv0 := [(0, .ref (base + 0)), (1, .ref (base + (pl c0)))]) (by decide) (Nat.le_of_ble_eq_true rfl) rfl ?_
  intro p e s m below meth c hmn hrt C
  obtain ⟨hk0, hk3, hk4, hk5, hkt, hkt2, hko, hkb, hkb2⟩ := hX.kf c0 hc0
  refine z_aload_n C dX4_newSlab_0 rfl 0 rfl ?_
  refine z_get C fl_X4_19 dX4_newSlab_1 hC.1 rfl ?_
  refine z_aload_n C dX4_newSlab_4 rfl 1 rfl ?_
  refine z_get C fl_X4_105 dX4_newSlab_5 (hC.ca hc0) rfl ?_
  refine z_casti (y := nI (ko c0)) (hk4) ?_
  refine z_aload_n C dX4_newSlab_8 rfl 1 rfl ?_
  refine z_get C fl_X4_191 dX4_newSlab_9 (hC.ca hc0) rfl ?_
  refine z_casti (y := nI (2 + c0)) (hk0) ?_
  refine z_callV (rest := []) C (C_lift hC (fun xs tl => m_X0_claim l G base xs sc td q tl hX.q hX.u hX.al (ko c0) (2 + c0) (by omega))) ml_X4_66 kw_X0_claim hC.2.2.2.1.1 rfl rfl rfl (by simp [Value.category]) dX4_newSlab_12 (by decide) (by decide) (by decide) (by decide) ?_
  rintro _ hp2 ⟨rfl, hC2, hF2⟩
  refine z_st (st' := [.int (oI (j_take sc q (ko c0)))]) rfl ?_
  rcases opt_cases (j_take sc q (ko c0)) with hjt | ⟨P, hjt⟩
  · skip
    refine z_casti (y := -1) (by rw [hjt]; rfl) ?_
    have hC3 : C_ok G base (s_miss (s_arm sc)) td q nc cf pl S mem hp2 := by
      have h9 := hC2
      unfold j_scl j_qcl at h9
      rw [hjt] at h9
      exact h9
    refine z_istore_n (lv' := [(2, .int ((-1 : Int32))), (0, .ref (base + 0)), (1, .ref (base + (pl c0)))]) C dX4_newSlab_15 rfl (by decide) rfl ?_
    refine z_iload_n C dX4_newSlab_16 rfl 0 rfl ?_
    refine z_callS (rest := []) C (m_X4_isPage l G base _ ((-1 : Int32))) ml_X4_144 kw_X4_isPage rfl rfl (by simp [Value.category]) dX4_newSlab_17 (by decide) (by decide) (by decide) (by decide) ?_
    rintro _ h9 ⟨rfl, e9⟩
    replace e9 := e9.symm
    subst e9
    refine z_st (st' := [.int ((bI (decide (0 ≤ (-1 : Int32) ∧ (-1 : Int32) < 256))))]) rfl ?_
    refine z_if_ne (tgt := 25) C dX4_newSlab_20 (by decide) (fun h20 => absurd h20 (fun z => z (by decide))) (fun h20 => ?_)
    refine z_iconst (v := -1) C dX4_newSlab_23 (by decide) ?_
    exact z_iret C hrt rfl dX4_newSlab_24 (by decide) (by decide) (⟨_, rfl, Or.inl ⟨hjt, rfl, hC3, hF2⟩⟩)
  · skip
    refine z_casti (y := nI P) (by rw [hjt]; rfl) ?_
    have hP := (j_take_lt hjt).1
    have hC3 : C_ok G base (s_got (s_arm sc) (ko c0)) td (q_got q P (ko c0) (2 + c0)) nc cf pl S mem hp2 := by
      have h9 := hC2
      unfold j_scl j_qcl at h9
      rw [hjt] at h9
      exact h9
    refine z_istore_n (lv' := [(2, .int (nI P)), (0, .ref (base + 0)), (1, .ref (base + (pl c0)))]) C dX4_newSlab_15 rfl (by decide) rfl ?_
    refine z_iload_n C dX4_newSlab_16 rfl 0 rfl ?_
    refine z_callS (rest := []) C (m_X4_isPage l G base _ (nI P)) ml_X4_144 kw_X4_isPage rfl rfl (by simp [Value.category]) dX4_newSlab_17 (by decide) (by decide) (by decide) (by decide) ?_
    rintro _ h9 ⟨rfl, e9⟩
    replace e9 := e9.symm
    subst e9
    refine z_st (st' := [.int ((bI (decide (0 ≤ nI P ∧ nI P < 256))))]) rfl ?_
    refine z_if_ne (tgt := 25) C dX4_newSlab_20 (by decide) (fun h20 => ?_) (fun h20 => absurd h20 (fun z => bI_eq z (pg_in hP)))
    refine z_aload_n C dX4_newSlab_25 rfl 1 rfl ?_
    refine z_get C fl_X4_25 dX4_newSlab_26 hC3.1 rfl ?_
    refine z_iload_n C dX4_newSlab_29 rfl 0 rfl ?_
    refine z_aaldN (t := 3) C rfl dX4_newSlab_30 hC3.2.2.2.2.1 (by omega) (by decide) ?_
    rcases opts_cases (S P) with hS | ⟨j1, r1, n1, ob1, f1, w1, hS⟩
    · skip
      refine z_st (st' := [.null]) (by show [va_rf (c_sl base S P)] = _; rw [show c_sl base S P = none by unfold c_sl; rw [hS]; rfl]; rfl) ?_
      refine z_astore_nq (x := none) (lv' := [(3, .null), (2, .int (nI P)), (0, .ref (base + 0)), (1, .ref (base + (pl c0)))]) C dX4_newSlab_31 rfl (by decide) rfl ?_
      refine z_aload_nq (x := none) C dX4_newSlab_32 rfl 0 rfl ?_
      refine z_ifnonnull_n C dX4_newSlab_33 ?_
      refine z_new (ci := 3) (N := 4) (fs := [.null, .int 0, .int 0, .long 0]) C rfl iw_X3 tyX3_ok ck_X4_23 iq_X3 in_X3 (fun j hj => by rcases (show j = 0 ∨ j = 1 ∨ j = 2 ∨ j = 3 by omega) with rfl | rfl | rfl | rfl <;> rfl) dX4_newSlab_36 (by decide) (by decide) ?_
      refine z_dup C dX4_newSlab_39 rfl ?_
      refine z_callIN (rest := [.ref (base + (hp2.length))]) C (m_X3_init l G base _ hp2.length z_appn) ml_X4_216 kw_X3_init rfl rfl (by simp [Value.category]) dX4_newSlab_40 (by decide) (by decide) (by decide) (by decide) ?_
      rintro _ _ ⟨rfl, rfl⟩
      refine z_st (st' := [.ref (base + (hp2.length))]) rfl ?_
      refine z_hp (hp' := hp2 ++ [q_oS (hp2.length + 1) 0 0 0 base, q_aI G 64 (fun _ => 0)]) (by rw [l_new, l_len1]) ?_
      refine z_astore_n (lv' := [(3, .ref (base + (hp2.length))), (2, .int (nI P)), (0, .ref (base + 0)), (1, .ref (base + (pl c0)))]) C dX4_newSlab_43 rfl (by decide) rfl ?_
      refine z_aload_n C dX4_newSlab_44 rfl 2 rfl ?_
      refine z_get C fl_X4_25 dX4_newSlab_45 (z_appl hC3.1) rfl ?_
      refine z_iload_n C dX4_newSlab_48 rfl 1 rfl ?_
      refine z_aload_n C dX4_newSlab_49 rfl 0 rfl ?_
      refine z_aastN (t := 3) (ci := 3) C rfl rfl dX4_newSlab_50 (z_appl hC3.2.2.2.2.1) (z_appn) (by omega) (by decide) ?_
      have hC4 := hC3.news (n := 0) (ob := 0) (f := fun _ => 0) (w := 0) hS
      · skip
        refine z_aload_n C dX4_newSlab_51 rfl 0 rfl ?_
        refine z_aload_n C dX4_newSlab_52 rfl 3 rfl ?_
        refine z_get C fl_X4_217 dX4_newSlab_53 (hC4.ca hc0) rfl ?_
        refine z_casti (y := nI (kb c0)) (hk5) ?_
        refine z_callV (rest := []) C (m_X3_layOut l G base _ hp2.length (hp2.length + 1) 0 0 (kb c0) (fun _ => 0) 0 (hC4.sj va_up_sf) (hC4.sr va_up_sf) (hC4.jr va_up_sf) hkb2) ml_X4_220 kw_X3_layOut (hC4.sj va_up_sf) rfl rfl rfl (by simp [Value.category]) dX4_newSlab_56 (by decide) (by decide) (by decide) (by decide) ?_
        rintro _ _ ⟨rfl, rfl⟩
        refine z_st (st' := []) rfl ?_
        have hC5 := hC4.sets (n' := kb c0) (ob' := kb c0) (f' := q_row (kb c0) (kb c0) 0 (fun _ => 0)) (w' := 0) va_up_sf
        rw [va_up_up] at hC5
        refine z_aload_n C dX4_newSlab_59 rfl 3 rfl ?_
        refine z_dup C dX4_newSlab_60 rfl ?_
        refine z_get C fl_X4_223 dX4_newSlab_61 (hC5.ca hc0) rfl ?_
        refine z_iconst (v := 1) C dX4_newSlab_64 (by decide) ?_
        refine z_iadd C dX4_newSlab_65 ?_
        refine z_put C fl_X4_223 fp_X1 rfl dX4_newSlab_66 (hC5.ca hc0) (by simp) rfl rfl ?_
        refine z_iload_n C dX4_newSlab_69 rfl 1 rfl ?_
        exact z_iret C hrt rfl dX4_newSlab_70 (by decide) (by decide) (⟨_, rfl, Or.inr ⟨P, _, _, _, hjt, hP, rfl, fun i hi => (q_row_at (kb c0) (kb c0) 0 _ (by omega) i).1 (by omega) hi, hC5.setc hc0 (upd (cf c0) 6 (cf c0 6 + 1)), ((((hF2.app hC2.len).set (Or.inl (by decide))).set (Or.inr (by have := hC2.len; omega))).set (Or.inr (by have := hC2.len; omega))).set (hC2.cp hc0)⟩⟩)
    · skip
      refine z_st (st' := [.ref (base + j1)]) (by show [va_rf (c_sl base S P)] = _; rw [show c_sl base S P = some (base + j1) by unfold c_sl; rw [hS]; rfl]; rfl) ?_
      obtain ⟨hno, hob, hfl⟩ := hX.sf _ _ _ _ _ _ _ hS
      refine z_astore_n (lv' := [(3, .ref (base + j1)), (2, .int (nI P)), (0, .ref (base + 0)), (1, .ref (base + (pl c0)))]) C dX4_newSlab_31 rfl (by decide) rfl ?_
      refine z_aload_n C dX4_newSlab_32 rfl 0 rfl ?_
      refine z_ifnonnull_s (tgt := 51) C dX4_newSlab_33 (by decide) ?_
      refine z_aload_n C dX4_newSlab_51 rfl 0 rfl ?_
      refine z_aload_n C dX4_newSlab_52 rfl 3 rfl ?_
      refine z_get C fl_X4_217 dX4_newSlab_53 (hC3.ca hc0) rfl ?_
      refine z_casti (y := nI (kb c0)) (hk5) ?_
      refine z_callV (rest := []) C (m_X3_layOut l G base _ j1 r1 n1 ob1 (kb c0) f1 w1 (hC3.sj hS) (hC3.sr hS) (hC3.jr hS) hkb2) ml_X4_220 kw_X3_layOut (hC3.sj hS) rfl rfl rfl (by simp [Value.category]) dX4_newSlab_56 (by decide) (by decide) (by decide) (by decide) ?_
      rintro _ _ ⟨rfl, rfl⟩
      refine z_st (st' := []) rfl ?_
      have hC5 := hC3.sets (n' := kb c0) (ob' := kb c0) (f' := q_row (kb c0) (kb c0) 0 f1) (w' := 0) hS
      refine z_aload_n C dX4_newSlab_59 rfl 3 rfl ?_
      refine z_dup C dX4_newSlab_60 rfl ?_
      refine z_get C fl_X4_223 dX4_newSlab_61 (hC5.ca hc0) rfl ?_
      refine z_iconst (v := 1) C dX4_newSlab_64 (by decide) ?_
      refine z_iadd C dX4_newSlab_65 ?_
      refine z_put C fl_X4_223 fp_X1 rfl dX4_newSlab_66 (hC5.ca hc0) (by simp) rfl rfl ?_
      refine z_iload_n C dX4_newSlab_69 rfl 1 rfl ?_
      exact z_iret C hrt rfl dX4_newSlab_70 (by decide) (by decide) (⟨_, rfl, Or.inr ⟨P, _, _, _, hjt, hP, rfl, fun i hi => (q_row_at (kb c0) (kb c0) 0 _ (by omega) i).1 (by omega) hi, hC5.setc hc0 (upd (cf c0) 6 (cf c0 6 + 1)), ((hF2.set (Or.inr (hC3.s30 hS).2)).set (Or.inr (hC3.s30 hS).1)).set (hC2.cp hc0)⟩⟩)
