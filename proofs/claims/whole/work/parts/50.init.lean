theorem k_8b : ∀ z, z < 6 → 8 * 2 ^ z ≤ 256 := by decide

set_option maxHeartbeats 4000000 in
set_option maxRecDepth 100000 in
theorem m_J6_bitCount_0f7a4 (l : Launch) (G : z_G) (base : Nat) (hp : List va_E) (x : Int32) : z_M l G base yJ6_bitCount_0f7a4 cJ6_bitCount_0f7a4 1 (some .int) 0 0 0 [.int (x)] hp (fun v hp' => v = some (.int (bc_F x)) ∧ hp' = hp) := by
  refine z_M.of (lv0 := [(0, .int (x))]) (by decide) (Nat.le_of_ble_eq_true rfl) rfl ?_
  intro p e s m below meth c hmn hrt C
  refine z_iload_n C dJ6_bitCount_0f7a4_0 rfl 0 rfl ?_
  refine z_iload_n C dJ6_bitCount_0f7a4_1 rfl 0 rfl ?_
  refine z_iconst (v := 1) C dJ6_bitCount_0f7a4_2 (by decide) ?_
  refine z_iushr C dJ6_bitCount_0f7a4_3 rfl ?_
  refine z_ldcw (v := 1431655765) C cl_J6_265 dJ6_bitCount_0f7a4_4 ?_
  refine z_iand C dJ6_bitCount_0f7a4_7 ?_
  refine z_isub C dJ6_bitCount_0f7a4_8 ?_
  refine z_topi (fun v0_1 ev0_1 => ?_)
  refine z_istore_n (lv' := [(0, .int (v0_1))]) C dJ6_bitCount_0f7a4_9 rfl (by decide) rfl ?_
  refine z_iload_n C dJ6_bitCount_0f7a4_10 rfl 0 rfl ?_
  refine z_ldcw (v := 858993459) C cl_J6_266 dJ6_bitCount_0f7a4_11 ?_
  refine z_iand C dJ6_bitCount_0f7a4_14 ?_
  refine z_iload_n C dJ6_bitCount_0f7a4_15 rfl 0 rfl ?_
  refine z_iconst (v := 2) C dJ6_bitCount_0f7a4_16 (by decide) ?_
  refine z_iushr C dJ6_bitCount_0f7a4_17 rfl ?_
  refine z_ldcw (v := 858993459) C cl_J6_266 dJ6_bitCount_0f7a4_18 ?_
  refine z_iand C dJ6_bitCount_0f7a4_21 ?_
  refine z_iadd C dJ6_bitCount_0f7a4_22 ?_
  refine z_topi (fun v0_2 ev0_2 => ?_)
  refine z_istore_n (lv' := [(0, .int (v0_2))]) C dJ6_bitCount_0f7a4_23 rfl (by decide) rfl ?_
  refine z_iload_n C dJ6_bitCount_0f7a4_24 rfl 0 rfl ?_
  refine z_iload_n C dJ6_bitCount_0f7a4_25 rfl 0 rfl ?_
  refine z_iconst (v := 4) C dJ6_bitCount_0f7a4_26 (by decide) ?_
  refine z_iushr C dJ6_bitCount_0f7a4_27 rfl ?_
  refine z_iadd C dJ6_bitCount_0f7a4_28 ?_
  refine z_ldcw (v := 252645135) C cl_J6_267 dJ6_bitCount_0f7a4_29 ?_
  refine z_iand C dJ6_bitCount_0f7a4_32 ?_
  refine z_topi (fun v0_3 ev0_3 => ?_)
  refine z_istore_n (lv' := [(0, .int (v0_3))]) C dJ6_bitCount_0f7a4_33 rfl (by decide) rfl ?_
  refine z_iload_n C dJ6_bitCount_0f7a4_34 rfl 0 rfl ?_
  refine z_iload_n C dJ6_bitCount_0f7a4_35 rfl 0 rfl ?_
  refine z_bipush (v := 8) C dJ6_bitCount_0f7a4_36 (by decide) ?_
  refine z_iushr C dJ6_bitCount_0f7a4_38 rfl ?_
  refine z_iadd C dJ6_bitCount_0f7a4_39 ?_
  refine z_topi (fun v0_4 ev0_4 => ?_)
  refine z_istore_n (lv' := [(0, .int (v0_4))]) C dJ6_bitCount_0f7a4_40 rfl (by decide) rfl ?_
  refine z_iload_n C dJ6_bitCount_0f7a4_41 rfl 0 rfl ?_
  refine z_iload_n C dJ6_bitCount_0f7a4_42 rfl 0 rfl ?_
  refine z_bipush (v := 16) C dJ6_bitCount_0f7a4_43 (by decide) ?_
  refine z_iushr C dJ6_bitCount_0f7a4_45 rfl ?_
  refine z_iadd C dJ6_bitCount_0f7a4_46 ?_
  refine z_topi (fun v0_5 ev0_5 => ?_)
  refine z_istore_n (lv' := [(0, .int (v0_5))]) C dJ6_bitCount_0f7a4_47 rfl (by decide) rfl ?_
  refine z_iload_n C dJ6_bitCount_0f7a4_48 rfl 0 rfl ?_
  refine z_bipush (v := 63) C dJ6_bitCount_0f7a4_49 (by decide) ?_
  refine z_iand C dJ6_bitCount_0f7a4_51 ?_
  exact z_iret C hrt rfl dJ6_bitCount_0f7a4_52 (by decide) (by decide) (⟨by subst ev0_1; subst ev0_2; subst ev0_3; subst ev0_4; subst ev0_5; rfl, rfl⟩)

set_option maxHeartbeats 4000000 in
set_option maxRecDepth 100000 in
theorem m_X4_isAlignment (l : Launch) (G : z_G) (base : Nat) (hp : List va_E) (y : Int32) : z_M l G base yX4_isAlignment cX4_isAlignment 1 (some .boolean) 1 0 0 [.int (y)] hp (fun v hp' => v = some (.int (bI (decide (1 ≤ y ∧ y ≤ 64 ∧ bc_F y = 1)))) ∧ hp' = hp) := by
  refine z_M.of (lv0 := [(0, .int (y))]) (by decide) (Nat.le_of_ble_eq_true rfl) rfl ?_
  intro p e s m below meth c hmn hrt C
  refine z_iload_n C dX4_isAlignment_0 rfl 0 rfl ?_
  refine z_iconst (v := 1) C dX4_isAlignment_1 (by decide) ?_
  refine z_icmp_lt (tgt := 23) C dX4_isAlignment_2 (by decide) (fun h2 => ?_) (fun h2 => ?_)
  · skip
    refine z_iconst (v := 0) C dX4_isAlignment_23 (by decide) ?_
    exact z_iret C hrt rfl dX4_isAlignment_24 (by decide) (by decide) (⟨by rw [← bI_f (fun z => by first | exact absurd h2 (Int32.not_lt.mpr z.1) | exact absurd h8 (Int32.not_lt.mpr z.2.1) | exact absurd z.2.2 h16)], rfl⟩)
  · skip
    refine z_iload_n C dX4_isAlignment_5 rfl 0 rfl ?_
    refine z_bipush (v := 64) C dX4_isAlignment_6 (by decide) ?_
    refine z_icmp_gt (tgt := 23) C dX4_isAlignment_8 (by decide) (fun h8 => ?_) (fun h8 => ?_)
    · skip
      refine z_iconst (v := 0) C dX4_isAlignment_23 (by decide) ?_
      exact z_iret C hrt rfl dX4_isAlignment_24 (by decide) (by decide) (⟨by rw [← bI_f (fun z => by first | exact absurd h2 (Int32.not_lt.mpr z.1) | exact absurd h8 (Int32.not_lt.mpr z.2.1) | exact absurd z.2.2 h16)], rfl⟩)
    · skip
      refine z_iload_n C dX4_isAlignment_11 rfl 0 rfl ?_
      refine z_callS (rest := []) C (m_J6_bitCount_0f7a4 l G base _ (y)) ml_X4_179 kw_J6_bitCount_0f7a4 rfl rfl (by simp [Value.category]) dX4_isAlignment_12 (by decide) (by decide) (by decide) (by decide) ?_
      rintro _ h9 ⟨rfl, e9⟩
      replace e9 := e9.symm
      subst e9
      refine z_st (st' := [.int (bc_F y)]) rfl ?_
      refine z_iconst (v := 1) C dX4_isAlignment_15 (by decide) ?_
      refine z_icmp_ne (tgt := 23) C dX4_isAlignment_16 (by decide) (fun h16 => ?_) (fun h16 => ?_)
      · skip
        refine z_iconst (v := 0) C dX4_isAlignment_23 (by decide) ?_
        exact z_iret C hrt rfl dX4_isAlignment_24 (by decide) (by decide) (⟨by rw [← bI_f (fun z => by first | exact absurd h2 (Int32.not_lt.mpr z.1) | exact absurd h8 (Int32.not_lt.mpr z.2.1) | exact absurd z.2.2 h16)], rfl⟩)
      · skip
        refine z_iconst (v := 1) C dX4_isAlignment_19 (by decide) ?_
        refine z_goto (tgt := 24) C dX4_isAlignment_20 (by decide) ?_
        exact z_iret C hrt rfl dX4_isAlignment_24 (by decide) (by decide) (⟨by rw [← bI_t ⟨Int32.not_lt.mp h2, Int32.not_lt.mp h8, h16⟩], rfl⟩)

set_option maxHeartbeats 4000000 in
set_option maxRecDepth 100000 in
theorem m_X1_init (l : Launch) (G : z_G) (base : Nat) (hp : List va_E) (i : Nat) (he : hp[i]? = some (.inr (1, [.int 0, .int 0, .int 0, .int 0, .int 0, .int 0, .int 0, .int 0, .int 0]))) (n b a : Nat) (hb : 1 ≤ b) (hb2 : b ≤ 1024) (ha : 1 ≤ a) (ha2 : a ≤ 64) (hal : (nI b + nI a - 1) &&& (-(nI a)) = nI (k_str b a)) : z_M l G base yX1_init cX1_init 4 none 2 0 0 [.ref (base + i), .int (nI n), .int (nI b), .int (nI a)] hp (fun v hp' => v = none ∧ hp' = hp.set i (q_oC (k_cf n b a))) := by
  refine z_M.of (lv0 := [(0, .ref (base + i)), (1, .int (nI n)), (2, .int (nI b)), (3, .int (nI a))]) (by decide) (Nat.le_of_ble_eq_true rfl) rfl ?_
  intro p e s m below meth c hmn hrt C
  have hs1 := k_str_pos (b := b) (a := a) hb ha
  have hs2 := k_str_le (b := b) (a := a)
  have hso := q_so_le (t := k_str b a) 4 0
  refine z_aload_n C dX1_init_0 rfl 0 rfl ?_
  refine z_objInit C ml_X1_3 im_obj kc_obj dX1_init_1 (by decide) (Nat.le_of_ble_eq_true rfl) ?_
  refine z_aload_n C dX1_init_4 rfl 0 rfl ?_
  refine z_iconst (v := -1) C dX1_init_5 (by decide) ?_
  refine z_put C fl_X1_9 fp_X1 rfl dX1_init_6 he (by simp) rfl rfl ?_
  refine z_aload_n C dX1_init_9 rfl 0 rfl ?_
  refine z_iconst (v := 2) C dX1_init_10 (by decide) ?_
  refine z_iload_n C dX1_init_11 rfl 1 rfl ?_
  refine z_iadd C dX1_init_12 ?_
  refine z_casti (y := nI (2 + n)) (nI_add 2 n) ?_
  refine z_putF C hmn fl_X1_15 fp_X1 rfl rfl dX1_init_13 (z_self he) (by simp) rfl rfl ?_
  refine z_aload_n C dX1_init_16 rfl 0 rfl ?_
  refine z_iload_n C dX1_init_17 rfl 2 rfl ?_
  refine z_putF C hmn fl_X1_18 fp_X1 rfl rfl dX1_init_18 (z_self (z_self he)) (by simp) rfl rfl ?_
  refine z_aload_n C dX1_init_21 rfl 0 rfl ?_
  refine z_iload_n C dX1_init_22 rfl 3 rfl ?_
  refine z_putF C hmn fl_X1_21 fp_X1 rfl rfl dX1_init_23 (z_self (z_self (z_self he))) (by simp) rfl rfl ?_
  refine z_aload_n C dX1_init_26 rfl 0 rfl ?_
  refine z_iload_n C dX1_init_27 rfl 2 rfl ?_
  refine z_iload_n C dX1_init_28 rfl 3 rfl ?_
  refine z_iadd C dX1_init_29 ?_
  refine z_iconst (v := 1) C dX1_init_30 (by decide) ?_
  refine z_isub C dX1_init_31 ?_
  refine z_iload_n C dX1_init_32 rfl 3 rfl ?_
  refine z_ineg C dX1_init_33 ?_
  refine z_iand C dX1_init_34 ?_
  refine z_casti (y := nI (k_str b a)) (hal) ?_
  refine z_putF C hmn fl_X1_24 fp_X1 rfl rfl dX1_init_35 (z_self (z_self (z_self (z_self he)))) (by simp) rfl rfl ?_
  refine z_aload_n C dX1_init_38 rfl 0 rfl ?_
  refine z_aload_n C dX1_init_39 rfl 0 rfl ?_
  refine z_get C fl_X1_24 dX1_init_40 (z_self (z_self (z_self (z_self (z_self he))))) rfl ?_
  refine z_callS (rest := [.ref (base + i)]) C (m_X1_orderFor l G base _ (k_str b a) hs1 (by omega)) ml_X1_27 kw_X1_orderFor rfl rfl (by simp [Value.category]) dX1_init_43 (by decide) (by decide) (by decide) (by decide) ?_
  rintro _ _ ⟨rfl, rfl⟩
  refine z_st (st' := [.int (nI (q_so (k_str b a) 4 0)), .ref (base + i)]) rfl ?_
  refine z_putF C hmn fl_X1_31 fp_X1 rfl rfl dX1_init_46 (z_self (z_self (z_self (z_self (z_self he))))) (by simp) rfl rfl ?_
  refine z_aload_n C dX1_init_49 rfl 0 rfl ?_
  refine z_aload_n C dX1_init_50 rfl 0 rfl ?_
  refine z_get C fl_X1_31 dX1_init_51 (z_self (z_self (z_self (z_self (z_self (z_self he)))))) rfl ?_
  refine z_aload_n C dX1_init_54 rfl 0 rfl ?_
  refine z_get C fl_X1_24 dX1_init_55 (z_self (z_self (z_self (z_self (z_self (z_self he)))))) rfl ?_
  refine z_callS (rest := [.ref (base + i)]) C (m_X1_objectsIn l G base _ (q_so (k_str b a) 4 0) (k_str b a) (by omega) hs1 (by omega)) ml_X1_34 kw_X1_objectsIn rfl rfl (by simp [Value.category]) dX1_init_58 (by decide) (by decide) (by decide) (by decide) ?_
  rintro _ _ ⟨rfl, rfl⟩
  refine z_st (st' := [.int (nI (64 * 2 ^ q_so (k_str b a) 4 0 / k_str b a)), .ref (base + i)]) rfl ?_
  refine z_putF C hmn fl_X1_38 fp_X1 rfl rfl dX1_init_61 (z_self (z_self (z_self (z_self (z_self (z_self he)))))) (by simp) rfl rfl ?_
  exact z_vret C hrt dX1_init_64 (by decide) (by decide) (⟨rfl, by simp only [List.set_set]; rfl⟩)

set_option maxHeartbeats 4000000 in
set_option maxRecDepth 100000 in
theorem m_X4_cache (l : Launch) (G : z_G) (base : Nat) (sc td : Nat → Int32) (q : q_T) (nc : Nat) (cf : Nat → Nat → Int32) (pl : Nat → Nat) (S : Nat → Option s_T) (mem : Nat → Nat) (hp : List va_E) (hC : C_ok G base sc td q nc cf pl S mem hp) (hnc : nc < 12) (b a : Nat) (hb : 1 ≤ b) (hb2 : b ≤ 1024) (ha : 1 ≤ a) (ha2 : a ≤ 64) (hbc : bc_F (nI a) = 1) (hst : ¬ sc 0 = 0) : z_M l G base yX4_cache cX4_cache 4 (some .int) 3 1 9 [.ref (base + 0), .int (nI b), .int (nI a)] hp (fun v hp' => v = some (.int (nI nc)) ∧ ∃ pl', C_ok G base sc td q (nc + 1) (va_up cf nc (k_cf nc b a)) pl' S mem hp' ∧ C_fr hp hp') := by
  refine z_M.of (lv0 := [(0, .ref (base + 0)), (1, .int (nI b)), (2, .int (nI a))]) (by decide) (Nat.le_of_ble_eq_true rfl) rfl ?_
  intro p e s m below meth c hmn hrt C
  have hal : (nI b + nI a - 1) &&& (-(nI a)) = nI (k_str b a) := by
    obtain ⟨m9, hm9, e9⟩ := (bc_pow a (by omega)).mp hbc
    rw [e9]
    exact k_al m9 hm9 b (by omega)
  refine z_aload_n C dX4_cache_0 rfl 0 rfl ?_
  refine z_get C fl_X4_19 dX4_cache_1 hC.1 rfl ?_
  refine z_get C fl_X4_48 dX4_cache_4 hC.2.2.2.1.1 rfl ?_
  refine z_if_eq (tgt := 19) C dX4_cache_7 (by decide) (fun h7 => absurd h7 (hst)) (fun h7 => ?_)
  refine z_aload_n C dX4_cache_10 rfl 0 rfl ?_
  refine z_get C fl_X4_44 dX4_cache_11 hC.1 rfl ?_
  refine z_bipush (v := 12) C dX4_cache_14 (by decide) ?_
  refine z_icmp_lt (tgt := 21) C dX4_cache_16 (by decide) (fun h16 => ?_) (fun h16 => absurd h16 (fun z => z (nI_lt (b := 12) hnc (by decide))))
  refine z_iload_n C dX4_cache_21 rfl 1 rfl ?_
  refine z_iconst (v := 1) C dX4_cache_22 (by decide) ?_
  refine z_icmp_lt (tgt := 40) C dX4_cache_23 (by decide) (fun h23 => absurd h23 (nI_nlt (b := 1) hb (by omega))) (fun h23 => ?_)
  refine z_iload_n C dX4_cache_26 rfl 1 rfl ?_
  refine z_sipush (v := 1024) C dX4_cache_27 (by decide) ?_
  refine z_icmp_gt (tgt := 40) C dX4_cache_30 (by decide) (fun h30 => absurd h30 (nI_nlt (a := 1024) hb2 (by decide))) (fun h30 => ?_)
  refine z_iload_n C dX4_cache_33 rfl 2 rfl ?_
  refine z_callS (rest := []) C (m_X4_isAlignment l G base _ (nI a)) ml_X4_80 kw_X4_isAlignment rfl rfl (by simp [Value.category]) dX4_cache_34 (by decide) (by decide) (by decide) (by decide) ?_
  rintro _ h9 ⟨rfl, e9⟩
  replace e9 := e9.symm
  subst e9
  refine z_st (st' := [.int (bI (decide (1 ≤ nI a ∧ nI a ≤ 64 ∧ bc_F (nI a) = 1)))]) rfl ?_
  refine z_if_ne (tgt := 42) C dX4_cache_37 (by decide) (fun h37 => ?_) (fun h37 => absurd h37 (fun z => bI_eq z ⟨nI_le (a := 1) ha (by omega), nI_le (b := 64) ha2 (by decide), hbc⟩))
  refine z_aload_n C dX4_cache_42 rfl 0 rfl ?_
  refine z_get C fl_X4_44 dX4_cache_43 hC.1 rfl ?_
  refine z_istore_n (lv' := [(3, .int (nI nc)), (0, .ref (base + 0)), (1, .int (nI b)), (2, .int (nI a))]) C dX4_cache_46 rfl (by decide) rfl ?_
  refine z_aload_n C dX4_cache_47 rfl 1 rfl ?_
  refine z_get C fl_X4_31 dX4_cache_48 hC.1 rfl ?_
  refine z_iload_n C dX4_cache_51 rfl 0 rfl ?_
  refine z_new (ci := 1) (N := 9) (fs := [.int 0, .int 0, .int 0, .int 0, .int 0, .int 0, .int 0, .int 0, .int 0]) C rfl iw_X1 tyX1_ok ck_X4_29 iq_X1 in_X1 (fun j hj => by rcases (show j = 0 ∨ j = 1 ∨ j = 2 ∨ j = 3 ∨ j = 4 ∨ j = 5 ∨ j = 6 ∨ j = 7 ∨ j = 8 by omega) with rfl | rfl | rfl | rfl | rfl | rfl | rfl | rfl | rfl <;> rfl) dX4_cache_52 (by decide) (by decide) ?_
  refine z_dup C dX4_cache_55 rfl ?_
  refine z_iload_n C dX4_cache_56 rfl 0 rfl ?_
  refine z_iload_n C dX4_cache_57 rfl 2 rfl ?_
  refine z_iload_n C dX4_cache_58 rfl 3 rfl ?_
  refine z_callI (rest := [.ref (base + (hp.length)), .int (nI nc), .ref (base + 9)]) C (m_X1_init l G base _ hp.length z_appn nc b a hb hb2 ha ha2 hal) ml_X4_41 kw_X1_init rfl rfl (by simp [Value.category]) dX4_cache_59 (by decide) (by decide) (by decide) (by decide) ?_
  rintro _ _ ⟨rfl, rfl⟩
  refine z_st (st' := [.ref (base + (hp.length)), .int (nI nc), .ref (base + 9)]) rfl ?_
  refine z_hp (hp' := hp ++ [q_oC (k_cf nc b a)]) (l_set1) ?_
  refine z_aastN (t := 4) (ci := 1) C rfl rfl dX4_cache_62 (z_appl hC.2.2.2.2.2.1) (z_appn) (by omega) (by decide) ?_
  refine z_aload_n C dX4_cache_63 rfl 1 rfl ?_
  refine z_dup C dX4_cache_64 rfl ?_
  refine z_get C fl_X4_44 dX4_cache_65 (z_oth (by first | decide | assumption | exact Ne.symm (by assumption) | omega) (z_appl hC.1)) rfl ?_
  refine z_iconst (v := 1) C dX4_cache_68 (by decide) ?_
  refine z_iadd C dX4_cache_69 ?_
  refine z_casti (y := nI (nc + 1)) (nI_add nc 1) ?_
  refine z_put C fl_X4_44 fp_X4 rfl dX4_cache_70 (z_oth (by first | decide | assumption | exact Ne.symm (by assumption) | omega) (z_appl hC.1)) (by simp) rfl rfl ?_
  refine z_iload_n C dX4_cache_73 rfl 0 rfl ?_
  exact z_iret C hrt rfl dX4_cache_74 (by decide) (by decide) (⟨rfl, _, hC.newc, ((((C_fr.rf hp).app hC.len).set (Or.inl (by decide))).set (Or.inl (by decide)))⟩)

set_option maxHeartbeats 4000000 in
set_option maxRecDepth 100000 in
theorem m_X4_cache_2 (l : Launch) (G : z_G) (base : Nat) (sc td : Nat → Int32) (q : q_T) (nc : Nat) (cf : Nat → Nat → Int32) (pl : Nat → Nat) (S : Nat → Option s_T) (mem : Nat → Nat) (hp : List va_E) (hC : C_ok G base sc td q nc cf pl S mem hp) (x y : Int32) (hno : ¬ c_chB sc nc x y = true) : z_M l G base yX4_cache cX4_cache 4 (some .int) 3 1 9 [.ref (base + 0), .int (x), .int (y)] hp (fun v hp' => v = some (.int (-1)) ∧ hp' = hp) := by
  refine z_M.of (lv0 := [(0, .ref (base + 0)), (1, .int (x)), (2, .int (y))]) (by decide) (Nat.le_of_ble_eq_true rfl) rfl ?_
  intro p e s m below meth c hmn hrt C
  refine z_aload_n C dX4_cache_0 rfl 0 rfl ?_
  refine z_get C fl_X4_19 dX4_cache_1 hC.1 rfl ?_
  refine z_get C fl_X4_48 dX4_cache_4 hC.2.2.2.1.1 rfl ?_
  refine z_if_eq (tgt := 19) C dX4_cache_7 (by decide) (fun h7 => ?_) (fun h7 => ?_)
  · skip
    refine z_iconst (v := -1) C dX4_cache_19 (by decide) ?_
    exact z_iret C hrt rfl dX4_cache_20 (by decide) (by decide) (⟨rfl, rfl⟩)
  · skip
    refine z_aload_n C dX4_cache_10 rfl 0 rfl ?_
    refine z_get C fl_X4_44 dX4_cache_11 hC.1 rfl ?_
    refine z_bipush (v := 12) C dX4_cache_14 (by decide) ?_
    refine z_icmp_lt (tgt := 21) C dX4_cache_16 (by decide) (fun h16 => ?_) (fun h16 => ?_)
    · skip
      refine z_iload_n C dX4_cache_21 rfl 1 rfl ?_
      refine z_iconst (v := 1) C dX4_cache_22 (by decide) ?_
      refine z_icmp_lt (tgt := 40) C dX4_cache_23 (by decide) (fun h23 => ?_) (fun h23 => ?_)
      · skip
        refine z_iconst (v := -1) C dX4_cache_40 (by decide) ?_
        exact z_iret C hrt rfl dX4_cache_41 (by decide) (by decide) (⟨rfl, rfl⟩)
      · skip
        refine z_iload_n C dX4_cache_26 rfl 1 rfl ?_
        refine z_sipush (v := 1024) C dX4_cache_27 (by decide) ?_
        refine z_icmp_gt (tgt := 40) C dX4_cache_30 (by decide) (fun h30 => ?_) (fun h30 => ?_)
        · skip
          refine z_iconst (v := -1) C dX4_cache_40 (by decide) ?_
          exact z_iret C hrt rfl dX4_cache_41 (by decide) (by decide) (⟨rfl, rfl⟩)
        · skip
          refine z_iload_n C dX4_cache_33 rfl 2 rfl ?_
          refine z_callS (rest := []) C (m_X4_isAlignment l G base _ y) ml_X4_80 kw_X4_isAlignment rfl rfl (by simp [Value.category]) dX4_cache_34 (by decide) (by decide) (by decide) (by decide) ?_
          rintro _ h9 ⟨rfl, e9⟩
          replace e9 := e9.symm
          subst e9
          refine z_st (st' := [.int (bI (decide (1 ≤ y ∧ y ≤ 64 ∧ bc_F y = 1)))]) rfl ?_
          refine z_if_ne (tgt := 42) C dX4_cache_37 (by decide) (fun h37 => ?_) (fun h37 => ?_)
          · skip
            exact absurd (decide_eq_true ⟨h7, h16, ⟨Int32.not_lt.mp h23, Int32.not_lt.mp h30⟩, bI_ne h37⟩) hno
          · skip
            refine z_iconst (v := -1) C dX4_cache_40 (by decide) ?_
            exact z_iret C hrt rfl dX4_cache_41 (by decide) (by decide) (⟨rfl, rfl⟩)
    · skip
      refine z_iconst (v := -1) C dX4_cache_19 (by decide) ?_
      exact z_iret C hrt rfl dX4_cache_20 (by decide) (by decide) (⟨rfl, rfl⟩)

set_option maxHeartbeats 4000000 in
set_option maxRecDepth 100000 in
theorem m_X2_init (l : Launch) (G : z_G) (base : Nat) (x0 : va_E) : z_M l G base yX2_init cX2_init 1 none 1 1 2048 [.ref (base + 1)] [x0, .inr (2, [.null])] (fun v hp' => v = none ∧ hp' = [x0, q_oM base, q_aL G 2048 (fun _ => 0)]) := by
  refine z_M.of (lv0 := [(0, .ref (base + 1))]) (by decide) (Nat.le_of_ble_eq_true rfl) rfl ?_
  intro p e s m below meth c hmn hrt C
  refine z_aload_n C dX2_init_0 rfl 0 rfl ?_
  refine z_objInit C ml_X2_3 im_obj kc_obj dX2_init_1 (by decide) (Nat.le_of_ble_eq_true rfl) ?_
  refine z_aload_n C dX2_init_4 rfl 0 rfl ?_
  refine z_sipush (v := 2048) C dX2_init_5 (by decide) ?_
  refine z_newa (atype := .long) (ty := .long) (t := 1) (N := 2048) (a0 := (2048, .inr (.inl (fun _ => 0)))) C rfl rfl ac_long rfl (fun _ => rfl) dX2_init_8 (by decide) (by decide) (by decide) (by decide) (by decide) ?_
  refine z_st (st' := [.ref (base + 2), .ref (base + 1)]) (by rfl) ?_
  refine z_hp (hp' := [x0, .inr (2, [.null]), q_aL G 2048 (fun _ => 0)]) (by rfl) ?_
  refine z_putF C hmn fl_X2_11 fp_X2 rfl rfl dX2_init_10 rfl (by simp) rfl rfl ?_
  exact z_vret C hrt dX2_init_13 (by decide) (by decide) (⟨rfl, rfl⟩)

set_option maxHeartbeats 4000000 in
set_option maxRecDepth 100000 in
theorem m_X0_init (l : Launch) (G : z_G) (base : Nat) (x0 x1 x2 : va_E) : z_M l G base yX0_init cX0_init 1 none 1 4 775 [.ref (base + 3)] [x0, x1, x2, .inr (0, [.null, .null, .null, .null, .int ((0 : Int32)), .int ((0 : Int32)), .int ((0 : Int32)), .int ((0 : Int32)), .int ((0 : Int32)), .int ((0 : Int32)), .int ((0 : Int32)), .int ((0 : Int32))])] (fun v hp' => v = none ∧ hp' = [x0, x1, x2, q_oB base s_0, q_aZ G 256 (fun _ => 0), q_aI G 256 (fun _ => 0), q_aI G 256 (fun _ => 0), q_aJ G 7 (fun _ => 0)]) := by
  refine z_M.of (lv0 := [(0, .ref (base + 3))]) (by decide) (Nat.le_of_ble_eq_true rfl) rfl ?_
  intro p e s m below meth c hmn hrt C
  refine z_aload_n C dX0_init_0 rfl 0 rfl ?_
  refine z_objInit C ml_X0_3 im_obj kc_obj dX0_init_1 (by decide) (Nat.le_of_ble_eq_true rfl) ?_
  refine z_aload_n C dX0_init_4 rfl 0 rfl ?_
  refine z_sipush (v := 256) C dX0_init_5 (by decide) ?_
  refine z_newa (atype := .boolean) (ty := .boolean) (t := 2) (N := 256) (a0 := (256, .inl (fun _ => 0))) C rfl rfl ac_boolean rfl (fun _ => rfl) dX0_init_8 (by decide) (by decide) (by decide) (by decide) (by decide) ?_
  refine z_st (st' := [.ref (base + 4), .ref (base + 3)]) (by rfl) ?_
  refine z_hp (hp' := [x0, x1, x2, .inr (0, [.null, .null, .null, .null, .int ((0 : Int32)), .int ((0 : Int32)), .int ((0 : Int32)), .int ((0 : Int32)), .int ((0 : Int32)), .int ((0 : Int32)), .int ((0 : Int32)), .int ((0 : Int32))]), q_aZ G 256 (fun _ => 0)]) (by rfl) ?_
  refine z_putF C hmn fl_X0_9 fp_X0 rfl rfl dX0_init_10 rfl (by simp) rfl rfl ?_
  refine z_aload_n C dX0_init_13 rfl 0 rfl ?_
  refine z_sipush (v := 256) C dX0_init_14 (by decide) ?_
  refine z_newa (atype := .int) (ty := .int) (t := 0) (N := 256) (a0 := (256, .inl (fun p => nI ((fun _ => 0) p)))) C rfl rfl ac_int rfl (fun _ => rfl) dX0_init_17 (by decide) (by decide) (by decide) (by decide) (by decide) ?_
  refine z_st (st' := [.ref (base + 5), .ref (base + 3)]) (by rfl) ?_
  refine z_hp (hp' := [x0, x1, x2, .inr (0, [.ref (base + 4), .null, .null, .null, .int ((0 : Int32)), .int ((0 : Int32)), .int ((0 : Int32)), .int ((0 : Int32)), .int ((0 : Int32)), .int ((0 : Int32)), .int ((0 : Int32)), .int ((0 : Int32))]), q_aZ G 256 (fun _ => 0), q_aI G 256 (fun _ => 0)]) (by rfl) ?_
  refine z_putF C hmn fl_X0_15 fp_X0 rfl rfl dX0_init_19 rfl (by simp) rfl rfl ?_
  refine z_aload_n C dX0_init_22 rfl 0 rfl ?_
  refine z_sipush (v := 256) C dX0_init_23 (by decide) ?_
  refine z_newa (atype := .int) (ty := .int) (t := 0) (N := 256) (a0 := (256, .inl (fun p => nI ((fun _ => 0) p)))) C rfl rfl ac_int rfl (fun _ => rfl) dX0_init_26 (by decide) (by decide) (by decide) (by decide) (by decide) ?_
  refine z_st (st' := [.ref (base + 6), .ref (base + 3)]) (by rfl) ?_
  refine z_hp (hp' := [x0, x1, x2, .inr (0, [.ref (base + 4), .ref (base + 5), .null, .null, .int ((0 : Int32)), .int ((0 : Int32)), .int ((0 : Int32)), .int ((0 : Int32)), .int ((0 : Int32)), .int ((0 : Int32)), .int ((0 : Int32)), .int ((0 : Int32))]), q_aZ G 256 (fun _ => 0), q_aI G 256 (fun _ => 0), q_aI G 256 (fun _ => 0)]) (by rfl) ?_
  refine z_putF C hmn fl_X0_19 fp_X0 rfl rfl dX0_init_28 rfl (by simp) rfl rfl ?_
  refine z_aload_n C dX0_init_31 rfl 0 rfl ?_
  refine z_bipush (v := 7) C dX0_init_32 (by decide) ?_
  refine z_newa (atype := .int) (ty := .int) (t := 0) (N := 7) (a0 := (7, .inl (fun _ => 0))) C rfl rfl ac_int rfl (fun _ => rfl) dX0_init_34 (by decide) (by decide) (by decide) (by decide) (by decide) ?_
  refine z_st (st' := [.ref (base + 7), .ref (base + 3)]) (by rfl) ?_
  refine z_hp (hp' := [x0, x1, x2, .inr (0, [.ref (base + 4), .ref (base + 5), .ref (base + 6), .null, .int ((0 : Int32)), .int ((0 : Int32)), .int ((0 : Int32)), .int ((0 : Int32)), .int ((0 : Int32)), .int ((0 : Int32)), .int ((0 : Int32)), .int ((0 : Int32))]), q_aZ G 256 (fun _ => 0), q_aI G 256 (fun _ => 0), q_aI G 256 (fun _ => 0), q_aJ G 7 (fun _ => 0)]) (by rfl) ?_
  refine z_putF C hmn fl_X0_22 fp_X0 rfl rfl dX0_init_36 rfl (by simp) rfl rfl ?_
  refine z_aload_n C dX0_init_39 rfl 0 rfl ?_
  refine z_iconst (v := -1) C dX0_init_40 (by decide) ?_
  refine z_put C fl_X0_25 fp_X0 rfl dX0_init_41 rfl (by simp) rfl rfl ?_
  exact z_vret C hrt dX0_init_44 (by decide) (by decide) (⟨rfl, rfl⟩)

set_option maxHeartbeats 4000000 in
set_option maxRecDepth 100000 in
theorem m_X4_init (l : Launch) (G : z_G) (base : Nat)  : z_M l G base yX4_init cX4_init 3 none 3 15 3158 [.ref (base + 0)] [.inr (4, [.null, .null, .null, .null, .int (0)])] (fun v hp' => v = none ∧ hp' = hp_c G base) := by
  refine z_M.of (lv0 := [(0, .ref (base + 0))]) (by decide) (Nat.le_of_ble_eq_true rfl) rfl ?_
  intro p e s m below meth c hmn hrt C
  refine z_aload_n C dX4_init_0 rfl 0 rfl ?_
  refine z_objInit C ml_X4_3 im_obj kc_obj dX4_init_1 (by decide) (Nat.le_of_ble_eq_true rfl) ?_
  refine z_aload_n C dX4_init_4 rfl 0 rfl ?_
  refine z_new (ci := 2) (N := 1) (fs := [.null]) C rfl iw_X2 tyX2_ok ck_X4_9 iq_X2 in_X2 (fun j hj => by rcases (show j = 0 by omega) with rfl <;> rfl) dX4_init_5 (by decide) (by decide) ?_
  refine z_st (st' := [.ref (base + 1), .ref (base + 0)]) (by rfl) ?_
  refine z_hp (hp' := [.inr (4, [.null, .null, .null, .null, .int (0)]), .inr (2, [.null])]) (by rfl) ?_
  refine z_dup C dX4_init_8 rfl ?_
  refine z_callIN (rest := [.ref (base + 1), .ref (base + 0)]) C (m_X2_init l G base _) ml_X4_11 kw_X2_init rfl rfl (by simp [Value.category]) dX4_init_9 (by decide) (by decide) (by decide) (by decide) ?_
  rintro _ _ ⟨rfl, rfl⟩
  refine z_st (st' := [.ref (base + 1), .ref (base + 0)]) rfl ?_
  refine z_hp (hp' := [.inr (4, [.null, .null, .null, .null, .int (0)]), q_oM base, q_aL G 2048 (fun _ => 0)]) (by rfl) ?_
  refine z_putF C hmn fl_X4_12 fp_X4 rfl rfl dX4_init_12 rfl (by simp) rfl rfl ?_
  refine z_aload_n C dX4_init_15 rfl 0 rfl ?_
  refine z_new (ci := 0) (N := 12) (fs := [.null, .null, .null, .null, .int 0, .int 0, .int 0, .int 0, .int 0, .int 0, .int 0, .int 0]) C rfl iw_X0 tyX0_ok ck_X4_16 iq_X0 in_X0 (fun j hj => by rcases (show j = 0 ∨ j = 1 ∨ j = 2 ∨ j = 3 ∨ j = 4 ∨ j = 5 ∨ j = 6 ∨ j = 7 ∨ j = 8 ∨ j = 9 ∨ j = 10 ∨ j = 11 by omega) with rfl | rfl | rfl | rfl | rfl | rfl | rfl | rfl | rfl | rfl | rfl | rfl <;> rfl) dX4_init_16 (by decide) (by decide) ?_
  refine z_st (st' := [.ref (base + 3), .ref (base + 0)]) (by rfl) ?_
  refine z_hp (hp' := [.inr (4, [.ref (base + 1), .null, .null, .null, .int (0)]), q_oM base, q_aL G 2048 (fun _ => 0), .inr (0, [.null, .null, .null, .null, .int ((0 : Int32)), .int ((0 : Int32)), .int ((0 : Int32)), .int ((0 : Int32)), .int ((0 : Int32)), .int ((0 : Int32)), .int ((0 : Int32)), .int ((0 : Int32))])]) (by rfl) ?_
  refine z_dup C dX4_init_19 rfl ?_
  refine z_callIN (rest := [.ref (base + 3), .ref (base + 0)]) C (m_X0_init l G base _ _ _) ml_X4_18 kw_X0_init rfl rfl (by simp [Value.category]) dX4_init_20 (by decide) (by decide) (by decide) (by decide) ?_
  rintro _ _ ⟨rfl, rfl⟩
  refine z_st (st' := [.ref (base + 3), .ref (base + 0)]) rfl ?_
  refine z_hp (hp' := [.inr (4, [.ref (base + 1), .null, .null, .null, .int (0)]), q_oM base, q_aL G 2048 (fun _ => 0), q_oB base s_0, q_aZ G 256 (fun _ => 0), q_aI G 256 (fun _ => 0), q_aI G 256 (fun _ => 0), q_aJ G 7 (fun _ => 0)]) (by rfl) ?_
  refine z_putF C hmn fl_X4_19 fp_X4 rfl rfl dX4_init_23 rfl (by simp) rfl rfl ?_
  refine z_aload_n C dX4_init_26 rfl 0 rfl ?_
  refine z_sipush (v := 256) C dX4_init_27 (by decide) ?_
  refine z_anew (t := 3) (N := 256) C ck_X4_23 C.2.2.2.2.2.1.2.2.1 rfl dX4_init_30 (by decide) (by decide) (by decide) (by decide) (by decide) ?_
  refine z_st (st' := [.ref (base + 8), .ref (base + 0)]) (by rfl) ?_
  refine z_hp (hp' := [.inr (4, [.ref (base + 1), .ref (base + 3), .null, .null, .int (0)]), q_oM base, q_aL G 2048 (fun _ => 0), q_oB base s_0, q_aZ G 256 (fun _ => 0), q_aI G 256 (fun _ => 0), q_aI G 256 (fun _ => 0), q_aJ G 7 (fun _ => 0), q_aR G 3 256 (fun _ => none)]) (by rfl) ?_
  refine z_putF C hmn fl_X4_25 fp_X4 rfl rfl dX4_init_33 rfl (by simp) rfl rfl ?_
  refine z_aload_n C dX4_init_36 rfl 0 rfl ?_
  refine z_bipush (v := 12) C dX4_init_37 (by decide) ?_
  refine z_anew (t := 4) (N := 12) C ck_X4_29 C.2.2.2.2.2.1.2.2.2 rfl dX4_init_39 (by decide) (by decide) (by decide) (by decide) (by decide) ?_
  refine z_st (st' := [.ref (base + 9), .ref (base + 0)]) (by rfl) ?_
  refine z_hp (hp' := [.inr (4, [.ref (base + 1), .ref (base + 3), .ref (base + 8), .null, .int (0)]), q_oM base, q_aL G 2048 (fun _ => 0), q_oB base s_0, q_aZ G 256 (fun _ => 0), q_aI G 256 (fun _ => 0), q_aI G 256 (fun _ => 0), q_aJ G 7 (fun _ => 0), q_aR G 3 256 (fun _ => none), q_aR G 4 12 (fun _ => none)]) (by rfl) ?_
  refine z_putF C hmn fl_X4_31 fp_X4 rfl rfl dX4_init_42 rfl (by simp) rfl rfl ?_
  refine z_iconst (v := 0) C dX4_init_45 (by decide) ?_
  refine z_casti (y := nI 0) (rfl) ?_
  refine z_istore_n (lv' := [(1, .int (nI 0)), (0, .ref (base + 0))]) C dX4_init_46 rfl (by decide) rfl ?_
  refine z_hp (hp' := [.inr (4, [.ref (base + 1), .ref (base + 3), .ref (base + 8), .ref (base + 9), .int (0)]), q_oM base, q_aL G 2048 (fun _ => 0), q_oB base s_0, q_aZ G 256 (fun _ => 0), q_aI G 256 (fun _ => 0), q_aI G 256 (fun _ => 0), q_aJ G 7 (fun _ => 0), q_aR G 3 256 (fun _ => none), q_aR G 4 12 (c_ca base 0 pl_0)]) (by rw [← ca_0]; rfl) ?_
  refine z_iload_n C dX4_init_47 rfl 0 rfl ?_
  refine z_bipush (v := 6) C dX4_init_48 (by decide) ?_
  refine z_icmp_ge (tgt := 85) C dX4_init_50 (by decide) (fun h50 => absurd h50 (by decide)) (fun h50 => ?_)
  refine z_bipush (v := 8) C dX4_init_53 (by decide) ?_
  refine z_iload_n C dX4_init_55 rfl 0 rfl ?_
  refine z_ishl C dX4_init_56 ?_
  refine z_casti (y := nI 8) (by decide +kernel) ?_
  refine z_istore_n (lv' := [(2, .int (nI 8)), (1, .int (nI 0)), (0, .ref (base + 0))]) C dX4_init_57 rfl (by decide) rfl ?_
  refine z_aload_n C dX4_init_58 rfl 2 rfl ?_
  refine z_get C fl_X4_31 dX4_init_59 rfl rfl ?_
  refine z_iload_n C dX4_init_62 rfl 1 rfl ?_
  refine z_new (ci := 1) (N := 9) (fs := [.int 0, .int 0, .int 0, .int 0, .int 0, .int 0, .int 0, .int 0, .int 0]) C rfl iw_X1 tyX1_ok ck_X4_29 iq_X1 in_X1 (fun j hj => by rcases (show j = 0 ∨ j = 1 ∨ j = 2 ∨ j = 3 ∨ j = 4 ∨ j = 5 ∨ j = 6 ∨ j = 7 ∨ j = 8 by omega) with rfl | rfl | rfl | rfl | rfl | rfl | rfl | rfl | rfl <;> rfl) dX4_init_63 (by decide) (by decide) ?_
  refine z_st (st' := [.ref (base + 10), .int (nI 0), .ref (base + 9)]) (by rfl) ?_
  refine z_hp (hp' := [.inr (4, [.ref (base + 1), .ref (base + 3), .ref (base + 8), .ref (base + 9), .int (0)]), q_oM base, q_aL G 2048 (fun _ => 0), q_oB base s_0, q_aZ G 256 (fun _ => 0), q_aI G 256 (fun _ => 0), q_aI G 256 (fun _ => 0), q_aJ G 7 (fun _ => 0), q_aR G 3 256 (fun _ => none), q_aR G 4 12 (c_ca base 0 pl_0), .inr (1, [.int ((0 : Int32)), .int ((0 : Int32)), .int ((0 : Int32)), .int ((0 : Int32)), .int ((0 : Int32)), .int ((0 : Int32)), .int ((0 : Int32)), .int ((0 : Int32)), .int ((0 : Int32))])]) (by rfl) ?_
  refine z_dup C dX4_init_66 rfl ?_
  refine z_iload_n C dX4_init_67 rfl 1 rfl ?_
  refine z_iload_n C dX4_init_68 rfl 0 rfl ?_
  refine z_iload_n C dX4_init_69 rfl 0 rfl ?_
  refine z_bipush (v := 64) C dX4_init_70 (by decide) ?_
  refine z_mmin C ml_X4_35 st_min in_J9 kc_min dX4_init_72 (by decide) (Nat.le_of_ble_eq_true rfl) (by decide) (by decide) ?_
  refine z_casti (y := nI 8) (by decide +kernel) ?_
  refine z_callI (rest := [.ref (base + 10), .int (nI 0), .ref (base + 9)]) C (m_X1_init l G base _ 10 rfl 0 8 8 (by decide) (by decide) (by decide) (by decide) (by decide +kernel)) ml_X4_41 kw_X1_init rfl rfl (by simp [Value.category]) dX4_init_75 (by decide) (by decide) (by decide) (by decide) ?_
  rintro _ _ ⟨rfl, rfl⟩
  refine z_st (st' := [.ref (base + 10), .int (nI 0), .ref (base + 9)]) rfl ?_
  refine z_hp (hp' := [.inr (4, [.ref (base + 1), .ref (base + 3), .ref (base + 8), .ref (base + 9), .int (0)]), q_oM base, q_aL G 2048 (fun _ => 0), q_oB base s_0, q_aZ G 256 (fun _ => 0), q_aI G 256 (fun _ => 0), q_aI G 256 (fun _ => 0), q_aJ G 7 (fun _ => 0), q_aR G 3 256 (fun _ => none), q_aR G 4 12 (c_ca base 0 pl_0), q_oC (k_cf 0 8 8)]) (by rfl) ?_
  refine z_aastN (t := 4) (ci := 1) C rfl rfl dX4_init_78 rfl (rfl) (by omega) (by decide) ?_
  refine z_hp (hp' := [.inr (4, [.ref (base + 1), .ref (base + 3), .ref (base + 8), .ref (base + 9), .int (0)]), q_oM base, q_aL G 2048 (fun _ => 0), q_oB base s_0, q_aZ G 256 (fun _ => 0), q_aI G 256 (fun _ => 0), q_aI G 256 (fun _ => 0), q_aJ G 7 (fun _ => 0), q_aR G 3 256 (fun _ => none), q_aR G 4 12 (c_ca base 1 pl_0), q_oC (k_cf 0 8 8)]) (by rw [← (show va_up (c_ca base 0 pl_0) 0 (some (base + 10)) = c_ca base 1 pl_0 from ca_s)]; rfl) ?_
  refine z_iinc (k := 1) (v := nI 1) (lv' := [(1, .int (nI 1)), (2, .int (nI 8)), (0, .ref (base + 0))]) C dX4_init_79 rfl (by decide +kernel) (by decide) rfl ?_
  refine z_goto (tgt := 47) C dX4_init_82 (by decide) ?_
  refine z_iload_n C dX4_init_47 rfl 0 rfl ?_
  refine z_bipush (v := 6) C dX4_init_48 (by decide) ?_
  refine z_icmp_ge (tgt := 85) C dX4_init_50 (by decide) (fun h50 => absurd h50 (by decide)) (fun h50 => ?_)
  refine z_bipush (v := 8) C dX4_init_53 (by decide) ?_
  refine z_iload_n C dX4_init_55 rfl 0 rfl ?_
  refine z_ishl C dX4_init_56 ?_
  refine z_casti (y := nI 16) (by decide +kernel) ?_
  refine z_istore_n (lv' := [(2, .int (nI 16)), (1, .int (nI 1)), (0, .ref (base + 0))]) C dX4_init_57 rfl (by decide) rfl ?_
  refine z_aload_n C dX4_init_58 rfl 2 rfl ?_
  refine z_get C fl_X4_31 dX4_init_59 rfl rfl ?_
  refine z_iload_n C dX4_init_62 rfl 1 rfl ?_
  refine z_new (ci := 1) (N := 9) (fs := [.int 0, .int 0, .int 0, .int 0, .int 0, .int 0, .int 0, .int 0, .int 0]) C rfl iw_X1 tyX1_ok ck_X4_29 iq_X1 in_X1 (fun j hj => by rcases (show j = 0 ∨ j = 1 ∨ j = 2 ∨ j = 3 ∨ j = 4 ∨ j = 5 ∨ j = 6 ∨ j = 7 ∨ j = 8 by omega) with rfl | rfl | rfl | rfl | rfl | rfl | rfl | rfl | rfl <;> rfl) dX4_init_63 (by decide) (by decide) ?_
  refine z_st (st' := [.ref (base + 11), .int (nI 1), .ref (base + 9)]) (by rfl) ?_
  refine z_hp (hp' := [.inr (4, [.ref (base + 1), .ref (base + 3), .ref (base + 8), .ref (base + 9), .int (0)]), q_oM base, q_aL G 2048 (fun _ => 0), q_oB base s_0, q_aZ G 256 (fun _ => 0), q_aI G 256 (fun _ => 0), q_aI G 256 (fun _ => 0), q_aJ G 7 (fun _ => 0), q_aR G 3 256 (fun _ => none), q_aR G 4 12 (c_ca base 1 pl_0), q_oC (k_cf 0 8 8), .inr (1, [.int ((0 : Int32)), .int ((0 : Int32)), .int ((0 : Int32)), .int ((0 : Int32)), .int ((0 : Int32)), .int ((0 : Int32)), .int ((0 : Int32)), .int ((0 : Int32)), .int ((0 : Int32))])]) (by rfl) ?_
  refine z_dup C dX4_init_66 rfl ?_
  refine z_iload_n C dX4_init_67 rfl 1 rfl ?_
  refine z_iload_n C dX4_init_68 rfl 0 rfl ?_
  refine z_iload_n C dX4_init_69 rfl 0 rfl ?_
  refine z_bipush (v := 64) C dX4_init_70 (by decide) ?_
  refine z_mmin C ml_X4_35 st_min in_J9 kc_min dX4_init_72 (by decide) (Nat.le_of_ble_eq_true rfl) (by decide) (by decide) ?_
  refine z_casti (y := nI 16) (by decide +kernel) ?_
  refine z_callI (rest := [.ref (base + 11), .int (nI 1), .ref (base + 9)]) C (m_X1_init l G base _ 11 rfl 1 16 16 (by decide) (by decide) (by decide) (by decide) (by decide +kernel)) ml_X4_41 kw_X1_init rfl rfl (by simp [Value.category]) dX4_init_75 (by decide) (by decide) (by decide) (by decide) ?_
  rintro _ _ ⟨rfl, rfl⟩
  refine z_st (st' := [.ref (base + 11), .int (nI 1), .ref (base + 9)]) rfl ?_
  refine z_hp (hp' := [.inr (4, [.ref (base + 1), .ref (base + 3), .ref (base + 8), .ref (base + 9), .int (0)]), q_oM base, q_aL G 2048 (fun _ => 0), q_oB base s_0, q_aZ G 256 (fun _ => 0), q_aI G 256 (fun _ => 0), q_aI G 256 (fun _ => 0), q_aJ G 7 (fun _ => 0), q_aR G 3 256 (fun _ => none), q_aR G 4 12 (c_ca base 1 pl_0), q_oC (k_cf 0 8 8), q_oC (k_cf 1 16 16)]) (by rfl) ?_
  refine z_aastN (t := 4) (ci := 1) C rfl rfl dX4_init_78 rfl (rfl) (by omega) (by decide) ?_
  refine z_hp (hp' := [.inr (4, [.ref (base + 1), .ref (base + 3), .ref (base + 8), .ref (base + 9), .int (0)]), q_oM base, q_aL G 2048 (fun _ => 0), q_oB base s_0, q_aZ G 256 (fun _ => 0), q_aI G 256 (fun _ => 0), q_aI G 256 (fun _ => 0), q_aJ G 7 (fun _ => 0), q_aR G 3 256 (fun _ => none), q_aR G 4 12 (c_ca base 2 pl_0), q_oC (k_cf 0 8 8), q_oC (k_cf 1 16 16)]) (by rw [← (show va_up (c_ca base 1 pl_0) 1 (some (base + 11)) = c_ca base 2 pl_0 from ca_s)]; rfl) ?_
  refine z_iinc (k := 1) (v := nI 2) (lv' := [(1, .int (nI 2)), (2, .int (nI 16)), (0, .ref (base + 0))]) C dX4_init_79 rfl (by decide +kernel) (by decide) rfl ?_
  refine z_goto (tgt := 47) C dX4_init_82 (by decide) ?_
  refine z_iload_n C dX4_init_47 rfl 0 rfl ?_
  refine z_bipush (v := 6) C dX4_init_48 (by decide) ?_
  refine z_icmp_ge (tgt := 85) C dX4_init_50 (by decide) (fun h50 => absurd h50 (by decide)) (fun h50 => ?_)
  refine z_bipush (v := 8) C dX4_init_53 (by decide) ?_
  refine z_iload_n C dX4_init_55 rfl 0 rfl ?_
  refine z_ishl C dX4_init_56 ?_
  refine z_casti (y := nI 32) (by decide +kernel) ?_
  refine z_istore_n (lv' := [(2, .int (nI 32)), (1, .int (nI 2)), (0, .ref (base + 0))]) C dX4_init_57 rfl (by decide) rfl ?_
  refine z_aload_n C dX4_init_58 rfl 2 rfl ?_
  refine z_get C fl_X4_31 dX4_init_59 rfl rfl ?_
  refine z_iload_n C dX4_init_62 rfl 1 rfl ?_
  refine z_new (ci := 1) (N := 9) (fs := [.int 0, .int 0, .int 0, .int 0, .int 0, .int 0, .int 0, .int 0, .int 0]) C rfl iw_X1 tyX1_ok ck_X4_29 iq_X1 in_X1 (fun j hj => by rcases (show j = 0 ∨ j = 1 ∨ j = 2 ∨ j = 3 ∨ j = 4 ∨ j = 5 ∨ j = 6 ∨ j = 7 ∨ j = 8 by omega) with rfl | rfl | rfl | rfl | rfl | rfl | rfl | rfl | rfl <;> rfl) dX4_init_63 (by decide) (by decide) ?_
  refine z_st (st' := [.ref (base + 12), .int (nI 2), .ref (base + 9)]) (by rfl) ?_
  refine z_hp (hp' := [.inr (4, [.ref (base + 1), .ref (base + 3), .ref (base + 8), .ref (base + 9), .int (0)]), q_oM base, q_aL G 2048 (fun _ => 0), q_oB base s_0, q_aZ G 256 (fun _ => 0), q_aI G 256 (fun _ => 0), q_aI G 256 (fun _ => 0), q_aJ G 7 (fun _ => 0), q_aR G 3 256 (fun _ => none), q_aR G 4 12 (c_ca base 2 pl_0), q_oC (k_cf 0 8 8), q_oC (k_cf 1 16 16), .inr (1, [.int ((0 : Int32)), .int ((0 : Int32)), .int ((0 : Int32)), .int ((0 : Int32)), .int ((0 : Int32)), .int ((0 : Int32)), .int ((0 : Int32)), .int ((0 : Int32)), .int ((0 : Int32))])]) (by rfl) ?_
  refine z_dup C dX4_init_66 rfl ?_
  refine z_iload_n C dX4_init_67 rfl 1 rfl ?_
  refine z_iload_n C dX4_init_68 rfl 0 rfl ?_
  refine z_iload_n C dX4_init_69 rfl 0 rfl ?_
  refine z_bipush (v := 64) C dX4_init_70 (by decide) ?_
  refine z_mmin C ml_X4_35 st_min in_J9 kc_min dX4_init_72 (by decide) (Nat.le_of_ble_eq_true rfl) (by decide) (by decide) ?_
  refine z_casti (y := nI 32) (by decide +kernel) ?_
  refine z_callI (rest := [.ref (base + 12), .int (nI 2), .ref (base + 9)]) C (m_X1_init l G base _ 12 rfl 2 32 32 (by decide) (by decide) (by decide) (by decide) (by decide +kernel)) ml_X4_41 kw_X1_init rfl rfl (by simp [Value.category]) dX4_init_75 (by decide) (by decide) (by decide) (by decide) ?_
  rintro _ _ ⟨rfl, rfl⟩
  refine z_st (st' := [.ref (base + 12), .int (nI 2), .ref (base + 9)]) rfl ?_
  refine z_hp (hp' := [.inr (4, [.ref (base + 1), .ref (base + 3), .ref (base + 8), .ref (base + 9), .int (0)]), q_oM base, q_aL G 2048 (fun _ => 0), q_oB base s_0, q_aZ G 256 (fun _ => 0), q_aI G 256 (fun _ => 0), q_aI G 256 (fun _ => 0), q_aJ G 7 (fun _ => 0), q_aR G 3 256 (fun _ => none), q_aR G 4 12 (c_ca base 2 pl_0), q_oC (k_cf 0 8 8), q_oC (k_cf 1 16 16), q_oC (k_cf 2 32 32)]) (by rfl) ?_
  refine z_aastN (t := 4) (ci := 1) C rfl rfl dX4_init_78 rfl (rfl) (by omega) (by decide) ?_
  refine z_hp (hp' := [.inr (4, [.ref (base + 1), .ref (base + 3), .ref (base + 8), .ref (base + 9), .int (0)]), q_oM base, q_aL G 2048 (fun _ => 0), q_oB base s_0, q_aZ G 256 (fun _ => 0), q_aI G 256 (fun _ => 0), q_aI G 256 (fun _ => 0), q_aJ G 7 (fun _ => 0), q_aR G 3 256 (fun _ => none), q_aR G 4 12 (c_ca base 3 pl_0), q_oC (k_cf 0 8 8), q_oC (k_cf 1 16 16), q_oC (k_cf 2 32 32)]) (by rw [← (show va_up (c_ca base 2 pl_0) 2 (some (base + 12)) = c_ca base 3 pl_0 from ca_s)]; rfl) ?_
  refine z_iinc (k := 1) (v := nI 3) (lv' := [(1, .int (nI 3)), (2, .int (nI 32)), (0, .ref (base + 0))]) C dX4_init_79 rfl (by decide +kernel) (by decide) rfl ?_
  refine z_goto (tgt := 47) C dX4_init_82 (by decide) ?_
  refine z_iload_n C dX4_init_47 rfl 0 rfl ?_
  refine z_bipush (v := 6) C dX4_init_48 (by decide) ?_
  refine z_icmp_ge (tgt := 85) C dX4_init_50 (by decide) (fun h50 => absurd h50 (by decide)) (fun h50 => ?_)
  refine z_bipush (v := 8) C dX4_init_53 (by decide) ?_
  refine z_iload_n C dX4_init_55 rfl 0 rfl ?_
  refine z_ishl C dX4_init_56 ?_
  refine z_casti (y := nI 64) (by decide +kernel) ?_
  refine z_istore_n (lv' := [(2, .int (nI 64)), (1, .int (nI 3)), (0, .ref (base + 0))]) C dX4_init_57 rfl (by decide) rfl ?_
  refine z_aload_n C dX4_init_58 rfl 2 rfl ?_
  refine z_get C fl_X4_31 dX4_init_59 rfl rfl ?_
  refine z_iload_n C dX4_init_62 rfl 1 rfl ?_
  refine z_new (ci := 1) (N := 9) (fs := [.int 0, .int 0, .int 0, .int 0, .int 0, .int 0, .int 0, .int 0, .int 0]) C rfl iw_X1 tyX1_ok ck_X4_29 iq_X1 in_X1 (fun j hj => by rcases (show j = 0 ∨ j = 1 ∨ j = 2 ∨ j = 3 ∨ j = 4 ∨ j = 5 ∨ j = 6 ∨ j = 7 ∨ j = 8 by omega) with rfl | rfl | rfl | rfl | rfl | rfl | rfl | rfl | rfl <;> rfl) dX4_init_63 (by decide) (by decide) ?_
  refine z_st (st' := [.ref (base + 13), .int (nI 3), .ref (base + 9)]) (by rfl) ?_
  refine z_hp (hp' := [.inr (4, [.ref (base + 1), .ref (base + 3), .ref (base + 8), .ref (base + 9), .int (0)]), q_oM base, q_aL G 2048 (fun _ => 0), q_oB base s_0, q_aZ G 256 (fun _ => 0), q_aI G 256 (fun _ => 0), q_aI G 256 (fun _ => 0), q_aJ G 7 (fun _ => 0), q_aR G 3 256 (fun _ => none), q_aR G 4 12 (c_ca base 3 pl_0), q_oC (k_cf 0 8 8), q_oC (k_cf 1 16 16), q_oC (k_cf 2 32 32), .inr (1, [.int ((0 : Int32)), .int ((0 : Int32)), .int ((0 : Int32)), .int ((0 : Int32)), .int ((0 : Int32)), .int ((0 : Int32)), .int ((0 : Int32)), .int ((0 : Int32)), .int ((0 : Int32))])]) (by rfl) ?_
  refine z_dup C dX4_init_66 rfl ?_
  refine z_iload_n C dX4_init_67 rfl 1 rfl ?_
  refine z_iload_n C dX4_init_68 rfl 0 rfl ?_
  refine z_iload_n C dX4_init_69 rfl 0 rfl ?_
  refine z_bipush (v := 64) C dX4_init_70 (by decide) ?_
  refine z_mmin C ml_X4_35 st_min in_J9 kc_min dX4_init_72 (by decide) (Nat.le_of_ble_eq_true rfl) (by decide) (by decide) ?_
  refine z_casti (y := nI 64) (by decide +kernel) ?_
  refine z_callI (rest := [.ref (base + 13), .int (nI 3), .ref (base + 9)]) C (m_X1_init l G base _ 13 rfl 3 64 64 (by decide) (by decide) (by decide) (by decide) (by decide +kernel)) ml_X4_41 kw_X1_init rfl rfl (by simp [Value.category]) dX4_init_75 (by decide) (by decide) (by decide) (by decide) ?_
  rintro _ _ ⟨rfl, rfl⟩
  refine z_st (st' := [.ref (base + 13), .int (nI 3), .ref (base + 9)]) rfl ?_
  refine z_hp (hp' := [.inr (4, [.ref (base + 1), .ref (base + 3), .ref (base + 8), .ref (base + 9), .int (0)]), q_oM base, q_aL G 2048 (fun _ => 0), q_oB base s_0, q_aZ G 256 (fun _ => 0), q_aI G 256 (fun _ => 0), q_aI G 256 (fun _ => 0), q_aJ G 7 (fun _ => 0), q_aR G 3 256 (fun _ => none), q_aR G 4 12 (c_ca base 3 pl_0), q_oC (k_cf 0 8 8), q_oC (k_cf 1 16 16), q_oC (k_cf 2 32 32), q_oC (k_cf 3 64 64)]) (by rfl) ?_
  refine z_aastN (t := 4) (ci := 1) C rfl rfl dX4_init_78 rfl (rfl) (by omega) (by decide) ?_
  refine z_hp (hp' := [.inr (4, [.ref (base + 1), .ref (base + 3), .ref (base + 8), .ref (base + 9), .int (0)]), q_oM base, q_aL G 2048 (fun _ => 0), q_oB base s_0, q_aZ G 256 (fun _ => 0), q_aI G 256 (fun _ => 0), q_aI G 256 (fun _ => 0), q_aJ G 7 (fun _ => 0), q_aR G 3 256 (fun _ => none), q_aR G 4 12 (c_ca base 4 pl_0), q_oC (k_cf 0 8 8), q_oC (k_cf 1 16 16), q_oC (k_cf 2 32 32), q_oC (k_cf 3 64 64)]) (by rw [← (show va_up (c_ca base 3 pl_0) 3 (some (base + 13)) = c_ca base 4 pl_0 from ca_s)]; rfl) ?_
  refine z_iinc (k := 1) (v := nI 4) (lv' := [(1, .int (nI 4)), (2, .int (nI 64)), (0, .ref (base + 0))]) C dX4_init_79 rfl (by decide +kernel) (by decide) rfl ?_
  refine z_goto (tgt := 47) C dX4_init_82 (by decide) ?_
  refine z_iload_n C dX4_init_47 rfl 0 rfl ?_
  refine z_bipush (v := 6) C dX4_init_48 (by decide) ?_
  refine z_icmp_ge (tgt := 85) C dX4_init_50 (by decide) (fun h50 => absurd h50 (by decide)) (fun h50 => ?_)
  refine z_bipush (v := 8) C dX4_init_53 (by decide) ?_
  refine z_iload_n C dX4_init_55 rfl 0 rfl ?_
  refine z_ishl C dX4_init_56 ?_
  refine z_casti (y := nI 128) (by decide +kernel) ?_
  refine z_istore_n (lv' := [(2, .int (nI 128)), (1, .int (nI 4)), (0, .ref (base + 0))]) C dX4_init_57 rfl (by decide) rfl ?_
  refine z_aload_n C dX4_init_58 rfl 2 rfl ?_
  refine z_get C fl_X4_31 dX4_init_59 rfl rfl ?_
  refine z_iload_n C dX4_init_62 rfl 1 rfl ?_
  refine z_new (ci := 1) (N := 9) (fs := [.int 0, .int 0, .int 0, .int 0, .int 0, .int 0, .int 0, .int 0, .int 0]) C rfl iw_X1 tyX1_ok ck_X4_29 iq_X1 in_X1 (fun j hj => by rcases (show j = 0 ∨ j = 1 ∨ j = 2 ∨ j = 3 ∨ j = 4 ∨ j = 5 ∨ j = 6 ∨ j = 7 ∨ j = 8 by omega) with rfl | rfl | rfl | rfl | rfl | rfl | rfl | rfl | rfl <;> rfl) dX4_init_63 (by decide) (by decide) ?_
  refine z_st (st' := [.ref (base + 14), .int (nI 4), .ref (base + 9)]) (by rfl) ?_
  refine z_hp (hp' := [.inr (4, [.ref (base + 1), .ref (base + 3), .ref (base + 8), .ref (base + 9), .int (0)]), q_oM base, q_aL G 2048 (fun _ => 0), q_oB base s_0, q_aZ G 256 (fun _ => 0), q_aI G 256 (fun _ => 0), q_aI G 256 (fun _ => 0), q_aJ G 7 (fun _ => 0), q_aR G 3 256 (fun _ => none), q_aR G 4 12 (c_ca base 4 pl_0), q_oC (k_cf 0 8 8), q_oC (k_cf 1 16 16), q_oC (k_cf 2 32 32), q_oC (k_cf 3 64 64), .inr (1, [.int ((0 : Int32)), .int ((0 : Int32)), .int ((0 : Int32)), .int ((0 : Int32)), .int ((0 : Int32)), .int ((0 : Int32)), .int ((0 : Int32)), .int ((0 : Int32)), .int ((0 : Int32))])]) (by rfl) ?_
  refine z_dup C dX4_init_66 rfl ?_
  refine z_iload_n C dX4_init_67 rfl 1 rfl ?_
  refine z_iload_n C dX4_init_68 rfl 0 rfl ?_
  refine z_iload_n C dX4_init_69 rfl 0 rfl ?_
  refine z_bipush (v := 64) C dX4_init_70 (by decide) ?_
  refine z_mmin C ml_X4_35 st_min in_J9 kc_min dX4_init_72 (by decide) (Nat.le_of_ble_eq_true rfl) (by decide) (by decide) ?_
  refine z_casti (y := nI 64) (by decide +kernel) ?_
  refine z_callI (rest := [.ref (base + 14), .int (nI 4), .ref (base + 9)]) C (m_X1_init l G base _ 14 rfl 4 128 64 (by decide) (by decide) (by decide) (by decide) (by decide +kernel)) ml_X4_41 kw_X1_init rfl rfl (by simp [Value.category]) dX4_init_75 (by decide) (by decide) (by decide) (by decide) ?_
  rintro _ _ ⟨rfl, rfl⟩
  refine z_st (st' := [.ref (base + 14), .int (nI 4), .ref (base + 9)]) rfl ?_
  refine z_hp (hp' := [.inr (4, [.ref (base + 1), .ref (base + 3), .ref (base + 8), .ref (base + 9), .int (0)]), q_oM base, q_aL G 2048 (fun _ => 0), q_oB base s_0, q_aZ G 256 (fun _ => 0), q_aI G 256 (fun _ => 0), q_aI G 256 (fun _ => 0), q_aJ G 7 (fun _ => 0), q_aR G 3 256 (fun _ => none), q_aR G 4 12 (c_ca base 4 pl_0), q_oC (k_cf 0 8 8), q_oC (k_cf 1 16 16), q_oC (k_cf 2 32 32), q_oC (k_cf 3 64 64), q_oC (k_cf 4 128 64)]) (by rfl) ?_
  refine z_aastN (t := 4) (ci := 1) C rfl rfl dX4_init_78 rfl (rfl) (by omega) (by decide) ?_
  refine z_hp (hp' := [.inr (4, [.ref (base + 1), .ref (base + 3), .ref (base + 8), .ref (base + 9), .int (0)]), q_oM base, q_aL G 2048 (fun _ => 0), q_oB base s_0, q_aZ G 256 (fun _ => 0), q_aI G 256 (fun _ => 0), q_aI G 256 (fun _ => 0), q_aJ G 7 (fun _ => 0), q_aR G 3 256 (fun _ => none), q_aR G 4 12 (c_ca base 5 pl_0), q_oC (k_cf 0 8 8), q_oC (k_cf 1 16 16), q_oC (k_cf 2 32 32), q_oC (k_cf 3 64 64), q_oC (k_cf 4 128 64)]) (by rw [← (show va_up (c_ca base 4 pl_0) 4 (some (base + 14)) = c_ca base 5 pl_0 from ca_s)]; rfl) ?_
  refine z_iinc (k := 1) (v := nI 5) (lv' := [(1, .int (nI 5)), (2, .int (nI 128)), (0, .ref (base + 0))]) C dX4_init_79 rfl (by decide +kernel) (by decide) rfl ?_
  refine z_goto (tgt := 47) C dX4_init_82 (by decide) ?_
  refine z_iload_n C dX4_init_47 rfl 0 rfl ?_
  refine z_bipush (v := 6) C dX4_init_48 (by decide) ?_
  refine z_icmp_ge (tgt := 85) C dX4_init_50 (by decide) (fun h50 => absurd h50 (by decide)) (fun h50 => ?_)
  refine z_bipush (v := 8) C dX4_init_53 (by decide) ?_
  refine z_iload_n C dX4_init_55 rfl 0 rfl ?_
  refine z_ishl C dX4_init_56 ?_
  refine z_casti (y := nI 256) (by decide +kernel) ?_
  refine z_istore_n (lv' := [(2, .int (nI 256)), (1, .int (nI 5)), (0, .ref (base + 0))]) C dX4_init_57 rfl (by decide) rfl ?_
  refine z_aload_n C dX4_init_58 rfl 2 rfl ?_
  refine z_get C fl_X4_31 dX4_init_59 rfl rfl ?_
  refine z_iload_n C dX4_init_62 rfl 1 rfl ?_
  refine z_new (ci := 1) (N := 9) (fs := [.int 0, .int 0, .int 0, .int 0, .int 0, .int 0, .int 0, .int 0, .int 0]) C rfl iw_X1 tyX1_ok ck_X4_29 iq_X1 in_X1 (fun j hj => by rcases (show j = 0 ∨ j = 1 ∨ j = 2 ∨ j = 3 ∨ j = 4 ∨ j = 5 ∨ j = 6 ∨ j = 7 ∨ j = 8 by omega) with rfl | rfl | rfl | rfl | rfl | rfl | rfl | rfl | rfl <;> rfl) dX4_init_63 (by decide) (by decide) ?_
  refine z_st (st' := [.ref (base + 15), .int (nI 5), .ref (base + 9)]) (by rfl) ?_
  refine z_hp (hp' := [.inr (4, [.ref (base + 1), .ref (base + 3), .ref (base + 8), .ref (base + 9), .int (0)]), q_oM base, q_aL G 2048 (fun _ => 0), q_oB base s_0, q_aZ G 256 (fun _ => 0), q_aI G 256 (fun _ => 0), q_aI G 256 (fun _ => 0), q_aJ G 7 (fun _ => 0), q_aR G 3 256 (fun _ => none), q_aR G 4 12 (c_ca base 5 pl_0), q_oC (k_cf 0 8 8), q_oC (k_cf 1 16 16), q_oC (k_cf 2 32 32), q_oC (k_cf 3 64 64), q_oC (k_cf 4 128 64), .inr (1, [.int ((0 : Int32)), .int ((0 : Int32)), .int ((0 : Int32)), .int ((0 : Int32)), .int ((0 : Int32)), .int ((0 : Int32)), .int ((0 : Int32)), .int ((0 : Int32)), .int ((0 : Int32))])]) (by rfl) ?_
  refine z_dup C dX4_init_66 rfl ?_
  refine z_iload_n C dX4_init_67 rfl 1 rfl ?_
  refine z_iload_n C dX4_init_68 rfl 0 rfl ?_
  refine z_iload_n C dX4_init_69 rfl 0 rfl ?_
  refine z_bipush (v := 64) C dX4_init_70 (by decide) ?_
  refine z_mmin C ml_X4_35 st_min in_J9 kc_min dX4_init_72 (by decide) (Nat.le_of_ble_eq_true rfl) (by decide) (by decide) ?_
  refine z_casti (y := nI 64) (by decide +kernel) ?_
  refine z_callI (rest := [.ref (base + 15), .int (nI 5), .ref (base + 9)]) C (m_X1_init l G base _ 15 rfl 5 256 64 (by decide) (by decide) (by decide) (by decide) (by decide +kernel)) ml_X4_41 kw_X1_init rfl rfl (by simp [Value.category]) dX4_init_75 (by decide) (by decide) (by decide) (by decide) ?_
  rintro _ _ ⟨rfl, rfl⟩
  refine z_st (st' := [.ref (base + 15), .int (nI 5), .ref (base + 9)]) rfl ?_
  refine z_hp (hp' := [.inr (4, [.ref (base + 1), .ref (base + 3), .ref (base + 8), .ref (base + 9), .int (0)]), q_oM base, q_aL G 2048 (fun _ => 0), q_oB base s_0, q_aZ G 256 (fun _ => 0), q_aI G 256 (fun _ => 0), q_aI G 256 (fun _ => 0), q_aJ G 7 (fun _ => 0), q_aR G 3 256 (fun _ => none), q_aR G 4 12 (c_ca base 5 pl_0), q_oC (k_cf 0 8 8), q_oC (k_cf 1 16 16), q_oC (k_cf 2 32 32), q_oC (k_cf 3 64 64), q_oC (k_cf 4 128 64), q_oC (k_cf 5 256 64)]) (by rfl) ?_
  refine z_aastN (t := 4) (ci := 1) C rfl rfl dX4_init_78 rfl (rfl) (by omega) (by decide) ?_
  refine z_hp (hp' := [.inr (4, [.ref (base + 1), .ref (base + 3), .ref (base + 8), .ref (base + 9), .int (0)]), q_oM base, q_aL G 2048 (fun _ => 0), q_oB base s_0, q_aZ G 256 (fun _ => 0), q_aI G 256 (fun _ => 0), q_aI G 256 (fun _ => 0), q_aJ G 7 (fun _ => 0), q_aR G 3 256 (fun _ => none), q_aR G 4 12 (c_ca base 6 pl_0), q_oC (k_cf 0 8 8), q_oC (k_cf 1 16 16), q_oC (k_cf 2 32 32), q_oC (k_cf 3 64 64), q_oC (k_cf 4 128 64), q_oC (k_cf 5 256 64)]) (by rw [← (show va_up (c_ca base 5 pl_0) 5 (some (base + 15)) = c_ca base 6 pl_0 from ca_s)]; rfl) ?_
  refine z_iinc (k := 1) (v := nI 6) (lv' := [(1, .int (nI 6)), (2, .int (nI 256)), (0, .ref (base + 0))]) C dX4_init_79 rfl (by decide +kernel) (by decide) rfl ?_
  refine z_goto (tgt := 47) C dX4_init_82 (by decide) ?_
  refine z_iload_n C dX4_init_47 rfl 0 rfl ?_
  refine z_bipush (v := 6) C dX4_init_48 (by decide) ?_
  refine z_icmp_ge (tgt := 85) C dX4_init_50 (by decide) (fun h50 => ?_) (fun h50 => absurd h50 (fun z => z (by decide)))
  refine z_aload_n C dX4_init_85 rfl 2 rfl ?_
  refine z_bipush (v := 6) C dX4_init_86 (by decide) ?_
  refine z_put C fl_X4_44 fp_X4 rfl dX4_init_88 rfl (by simp) rfl rfl ?_
  exact z_vret C hrt dX4_init_91 (by decide) (by decide) (⟨rfl, rfl⟩)

set_option maxHeartbeats 4000000 in
set_option maxRecDepth 100000 in
theorem m_X5_init (l : Launch) (G : z_G) (base : Nat) (xs : Nat → va_E) : z_M l G base yX5_init cX5_init 4 none 2 13 34364 [.ref (base + 16)] [xs 0, xs 1, xs 2, xs 3, xs 4, xs 5, xs 6, xs 7, xs 8, xs 9, xs 10, xs 11, xs 12, xs 13, xs 14, xs 15, .inr (5, [.null, .int ((0 : Int32)), .null, .null, .null, .null, .null, .null, .null, .int ((0 : Int32)), .null, .null, .null, .null, .null, .int ((0 : Int32)), .int ((0 : Int32)), .int ((0 : Int32)), .int ((0 : Int32)), .int ((0 : Int32))])] (fun v hp' => v = none ∧ hp' = hpM G base xs (r_ini 6) []) := by
  refine z_M.of (lv0 := [(0, .ref (base + 16))]) (by decide) (Nat.le_of_ble_eq_true rfl) rfl ?_
  intro p e s m below meth c hmn hrt C
  refine z_aload_n C dX5_init_0 rfl 0 rfl ?_
  refine z_objInit C ml_X5_1 im_obj kc_obj dX5_init_1 (by decide) (Nat.le_of_ble_eq_true rfl) ?_
  refine z_aload_n C dX5_init_4 rfl 0 rfl ?_
  refine z_sipush (v := 16384) C dX5_init_5 (by decide) ?_
  refine z_newa (atype := .int) (ty := .int) (t := 0) (N := 16384) (a0 := (16384, .inl (fun p => nI ((fun _ => 0) p)))) C rfl rfl ac_int rfl (fun _ => rfl) dX5_init_8 (by decide) (by decide) (by decide) (by decide) (by decide) ?_
  refine z_st (st' := [.ref (base + 17), .ref (base + 16)]) (by rfl) ?_
  refine z_hp (hp' := [xs 0, xs 1, xs 2, xs 3, xs 4, xs 5, xs 6, xs 7, xs 8, xs 9, xs 10, xs 11, xs 12, xs 13, xs 14, xs 15, .inr (5, [.null, .int ((0 : Int32)), .null, .null, .null, .null, .null, .null, .null, .int ((0 : Int32)), .null, .null, .null, .null, .null, .int ((0 : Int32)), .int ((0 : Int32)), .int ((0 : Int32)), .int ((0 : Int32)), .int ((0 : Int32))]), q_aI G 16384 (fun _ => 0)]) (by rfl) ?_
  refine z_putF C hmn fl_X5_7 fp_X5 rfl rfl dX5_init_10 rfl (by simp) rfl rfl ?_
  refine z_aload_n C dX5_init_13 rfl 0 rfl ?_
  refine z_sipush (v := 256) C dX5_init_14 (by decide) ?_
  refine z_newa (atype := .boolean) (ty := .boolean) (t := 2) (N := 256) (a0 := (256, .inl (fun _ => 0))) C rfl rfl ac_boolean rfl (fun _ => rfl) dX5_init_17 (by decide) (by decide) (by decide) (by decide) (by decide) ?_
  refine z_st (st' := [.ref (base + 18), .ref (base + 16)]) (by rfl) ?_
  refine z_hp (hp' := [xs 0, xs 1, xs 2, xs 3, xs 4, xs 5, xs 6, xs 7, xs 8, xs 9, xs 10, xs 11, xs 12, xs 13, xs 14, xs 15, .inr (5, [.ref (base + 17), .int ((0 : Int32)), .null, .null, .null, .null, .null, .null, .null, .int ((0 : Int32)), .null, .null, .null, .null, .null, .int ((0 : Int32)), .int ((0 : Int32)), .int ((0 : Int32)), .int ((0 : Int32)), .int ((0 : Int32))]), q_aI G 16384 (fun _ => 0), q_aZ G 256 (fun _ => 0)]) (by rfl) ?_
  refine z_putF C hmn fl_X5_13 fp_X5 rfl rfl dX5_init_19 rfl (by simp) rfl rfl ?_
  refine z_aload_n C dX5_init_22 rfl 0 rfl ?_
  refine z_sipush (v := 256) C dX5_init_23 (by decide) ?_
  refine z_newa (atype := .int) (ty := .int) (t := 0) (N := 256) (a0 := (256, .inl (fun p => nI ((fun _ => 0) p)))) C rfl rfl ac_int rfl (fun _ => rfl) dX5_init_26 (by decide) (by decide) (by decide) (by decide) (by decide) ?_
  refine z_st (st' := [.ref (base + 19), .ref (base + 16)]) (by rfl) ?_
  refine z_hp (hp' := [xs 0, xs 1, xs 2, xs 3, xs 4, xs 5, xs 6, xs 7, xs 8, xs 9, xs 10, xs 11, xs 12, xs 13, xs 14, xs 15, .inr (5, [.ref (base + 17), .int ((0 : Int32)), .ref (base + 18), .null, .null, .null, .null, .null, .null, .int ((0 : Int32)), .null, .null, .null, .null, .null, .int ((0 : Int32)), .int ((0 : Int32)), .int ((0 : Int32)), .int ((0 : Int32)), .int ((0 : Int32))]), q_aI G 16384 (fun _ => 0), q_aZ G 256 (fun _ => 0), q_aI G 256 (fun _ => 0)]) (by rfl) ?_
  refine z_putF C hmn fl_X5_17 fp_X5 rfl rfl dX5_init_28 rfl (by simp) rfl rfl ?_
  refine z_aload_n C dX5_init_31 rfl 0 rfl ?_
  refine z_sipush (v := 256) C dX5_init_32 (by decide) ?_
  refine z_newa (atype := .int) (ty := .int) (t := 0) (N := 256) (a0 := (256, .inl (fun p => nI ((fun _ => 0) p)))) C rfl rfl ac_int rfl (fun _ => rfl) dX5_init_35 (by decide) (by decide) (by decide) (by decide) (by decide) ?_
  refine z_st (st' := [.ref (base + 20), .ref (base + 16)]) (by rfl) ?_
  refine z_hp (hp' := [xs 0, xs 1, xs 2, xs 3, xs 4, xs 5, xs 6, xs 7, xs 8, xs 9, xs 10, xs 11, xs 12, xs 13, xs 14, xs 15, .inr (5, [.ref (base + 17), .int ((0 : Int32)), .ref (base + 18), .ref (base + 19), .null, .null, .null, .null, .null, .int ((0 : Int32)), .null, .null, .null, .null, .null, .int ((0 : Int32)), .int ((0 : Int32)), .int ((0 : Int32)), .int ((0 : Int32)), .int ((0 : Int32))]), q_aI G 16384 (fun _ => 0), q_aZ G 256 (fun _ => 0), q_aI G 256 (fun _ => 0), q_aI G 256 (fun _ => 0)]) (by rfl) ?_
  refine z_putF C hmn fl_X5_20 fp_X5 rfl rfl dX5_init_37 rfl (by simp) rfl rfl ?_
  refine z_aload_n C dX5_init_40 rfl 0 rfl ?_
  refine z_sipush (v := 256) C dX5_init_41 (by decide) ?_
  refine z_newa (atype := .boolean) (ty := .boolean) (t := 2) (N := 256) (a0 := (256, .inl (fun _ => 0))) C rfl rfl ac_boolean rfl (fun _ => rfl) dX5_init_44 (by decide) (by decide) (by decide) (by decide) (by decide) ?_
  refine z_st (st' := [.ref (base + 21), .ref (base + 16)]) (by rfl) ?_
  refine z_hp (hp' := [xs 0, xs 1, xs 2, xs 3, xs 4, xs 5, xs 6, xs 7, xs 8, xs 9, xs 10, xs 11, xs 12, xs 13, xs 14, xs 15, .inr (5, [.ref (base + 17), .int ((0 : Int32)), .ref (base + 18), .ref (base + 19), .ref (base + 20), .null, .null, .null, .null, .int ((0 : Int32)), .null, .null, .null, .null, .null, .int ((0 : Int32)), .int ((0 : Int32)), .int ((0 : Int32)), .int ((0 : Int32)), .int ((0 : Int32))]), q_aI G 16384 (fun _ => 0), q_aZ G 256 (fun _ => 0), q_aI G 256 (fun _ => 0), q_aI G 256 (fun _ => 0), q_aZ G 256 (fun _ => 0)]) (by rfl) ?_
  refine z_putF C hmn fl_X5_23 fp_X5 rfl rfl dX5_init_46 rfl (by simp) rfl rfl ?_
  refine z_aload_n C dX5_init_49 rfl 0 rfl ?_
  refine z_sipush (v := 256) C dX5_init_50 (by decide) ?_
  refine z_newa (atype := .int) (ty := .int) (t := 0) (N := 256) (a0 := (256, .inl (fun _ => 0))) C rfl rfl ac_int rfl (fun _ => rfl) dX5_init_53 (by decide) (by decide) (by decide) (by decide) (by decide) ?_
  refine z_st (st' := [.ref (base + 22), .ref (base + 16)]) (by rfl) ?_
  refine z_hp (hp' := [xs 0, xs 1, xs 2, xs 3, xs 4, xs 5, xs 6, xs 7, xs 8, xs 9, xs 10, xs 11, xs 12, xs 13, xs 14, xs 15, .inr (5, [.ref (base + 17), .int ((0 : Int32)), .ref (base + 18), .ref (base + 19), .ref (base + 20), .ref (base + 21), .null, .null, .null, .int ((0 : Int32)), .null, .null, .null, .null, .null, .int ((0 : Int32)), .int ((0 : Int32)), .int ((0 : Int32)), .int ((0 : Int32)), .int ((0 : Int32))]), q_aI G 16384 (fun _ => 0), q_aZ G 256 (fun _ => 0), q_aI G 256 (fun _ => 0), q_aI G 256 (fun _ => 0), q_aZ G 256 (fun _ => 0), q_aJ G 256 (fun _ => 0)]) (by rfl) ?_
  refine z_putF C hmn fl_X5_26 fp_X5 rfl rfl dX5_init_55 rfl (by simp) rfl rfl ?_
  refine z_aload_n C dX5_init_58 rfl 0 rfl ?_
  refine z_sipush (v := 16384) C dX5_init_59 (by decide) ?_
  refine z_newa (atype := .int) (ty := .int) (t := 0) (N := 16384) (a0 := (16384, .inl (fun p => nI ((fun _ => 0) p)))) C rfl rfl ac_int rfl (fun _ => rfl) dX5_init_62 (by decide) (by decide) (by decide) (by decide) (by decide) ?_
  refine z_st (st' := [.ref (base + 23), .ref (base + 16)]) (by rfl) ?_
  refine z_hp (hp' := [xs 0, xs 1, xs 2, xs 3, xs 4, xs 5, xs 6, xs 7, xs 8, xs 9, xs 10, xs 11, xs 12, xs 13, xs 14, xs 15, .inr (5, [.ref (base + 17), .int ((0 : Int32)), .ref (base + 18), .ref (base + 19), .ref (base + 20), .ref (base + 21), .ref (base + 22), .null, .null, .int ((0 : Int32)), .null, .null, .null, .null, .null, .int ((0 : Int32)), .int ((0 : Int32)), .int ((0 : Int32)), .int ((0 : Int32)), .int ((0 : Int32))]), q_aI G 16384 (fun _ => 0), q_aZ G 256 (fun _ => 0), q_aI G 256 (fun _ => 0), q_aI G 256 (fun _ => 0), q_aZ G 256 (fun _ => 0), q_aJ G 256 (fun _ => 0), q_aI G 16384 (fun _ => 0)]) (by rfl) ?_
  refine z_putF C hmn fl_X5_29 fp_X5 rfl rfl dX5_init_64 rfl (by simp) rfl rfl ?_
  refine z_aload_n C dX5_init_67 rfl 0 rfl ?_
  refine z_sipush (v := 256) C dX5_init_68 (by decide) ?_
  refine z_newa (atype := .int) (ty := .int) (t := 0) (N := 256) (a0 := (256, .inl (fun p => nI ((fun _ => 0) p)))) C rfl rfl ac_int rfl (fun _ => rfl) dX5_init_71 (by decide) (by decide) (by decide) (by decide) (by decide) ?_
  refine z_st (st' := [.ref (base + 24), .ref (base + 16)]) (by rfl) ?_
  refine z_hp (hp' := [xs 0, xs 1, xs 2, xs 3, xs 4, xs 5, xs 6, xs 7, xs 8, xs 9, xs 10, xs 11, xs 12, xs 13, xs 14, xs 15, .inr (5, [.ref (base + 17), .int ((0 : Int32)), .ref (base + 18), .ref (base + 19), .ref (base + 20), .ref (base + 21), .ref (base + 22), .ref (base + 23), .null, .int ((0 : Int32)), .null, .null, .null, .null, .null, .int ((0 : Int32)), .int ((0 : Int32)), .int ((0 : Int32)), .int ((0 : Int32)), .int ((0 : Int32))]), q_aI G 16384 (fun _ => 0), q_aZ G 256 (fun _ => 0), q_aI G 256 (fun _ => 0), q_aI G 256 (fun _ => 0), q_aZ G 256 (fun _ => 0), q_aJ G 256 (fun _ => 0), q_aI G 16384 (fun _ => 0), q_aI G 256 (fun _ => 0)]) (by rfl) ?_
  refine z_putF C hmn fl_X5_32 fp_X5 rfl rfl dX5_init_73 rfl (by simp) rfl rfl ?_
  refine z_aload_n C dX5_init_76 rfl 0 rfl ?_
  refine z_bipush (v := 12) C dX5_init_77 (by decide) ?_
  refine z_newa (atype := .int) (ty := .int) (t := 0) (N := 12) (a0 := (12, .inl (fun p => nI ((fun _ => 0) p)))) C rfl rfl ac_int rfl (fun _ => rfl) dX5_init_79 (by decide) (by decide) (by decide) (by decide) (by decide) ?_
  refine z_st (st' := [.ref (base + 25), .ref (base + 16)]) (by rfl) ?_
  refine z_hp (hp' := [xs 0, xs 1, xs 2, xs 3, xs 4, xs 5, xs 6, xs 7, xs 8, xs 9, xs 10, xs 11, xs 12, xs 13, xs 14, xs 15, .inr (5, [.ref (base + 17), .int ((0 : Int32)), .ref (base + 18), .ref (base + 19), .ref (base + 20), .ref (base + 21), .ref (base + 22), .ref (base + 23), .ref (base + 24), .int ((0 : Int32)), .null, .null, .null, .null, .null, .int ((0 : Int32)), .int ((0 : Int32)), .int ((0 : Int32)), .int ((0 : Int32)), .int ((0 : Int32))]), q_aI G 16384 (fun _ => 0), q_aZ G 256 (fun _ => 0), q_aI G 256 (fun _ => 0), q_aI G 256 (fun _ => 0), q_aZ G 256 (fun _ => 0), q_aJ G 256 (fun _ => 0), q_aI G 16384 (fun _ => 0), q_aI G 256 (fun _ => 0), q_aI G 12 (fun _ => 0)]) (by rfl) ?_
  refine z_putF C hmn fl_X5_35 fp_X5 rfl rfl dX5_init_81 rfl (by simp) rfl rfl ?_
  refine z_aload_n C dX5_init_84 rfl 0 rfl ?_
  refine z_bipush (v := 12) C dX5_init_85 (by decide) ?_
  refine z_newa (atype := .int) (ty := .int) (t := 0) (N := 12) (a0 := (12, .inl (fun p => nI ((fun _ => 0) p)))) C rfl rfl ac_int rfl (fun _ => rfl) dX5_init_87 (by decide) (by decide) (by decide) (by decide) (by decide) ?_
  refine z_st (st' := [.ref (base + 26), .ref (base + 16)]) (by rfl) ?_
  refine z_hp (hp' := [xs 0, xs 1, xs 2, xs 3, xs 4, xs 5, xs 6, xs 7, xs 8, xs 9, xs 10, xs 11, xs 12, xs 13, xs 14, xs 15, .inr (5, [.ref (base + 17), .int ((0 : Int32)), .ref (base + 18), .ref (base + 19), .ref (base + 20), .ref (base + 21), .ref (base + 22), .ref (base + 23), .ref (base + 24), .int ((0 : Int32)), .ref (base + 25), .null, .null, .null, .null, .int ((0 : Int32)), .int ((0 : Int32)), .int ((0 : Int32)), .int ((0 : Int32)), .int ((0 : Int32))]), q_aI G 16384 (fun _ => 0), q_aZ G 256 (fun _ => 0), q_aI G 256 (fun _ => 0), q_aI G 256 (fun _ => 0), q_aZ G 256 (fun _ => 0), q_aJ G 256 (fun _ => 0), q_aI G 16384 (fun _ => 0), q_aI G 256 (fun _ => 0), q_aI G 12 (fun _ => 0), q_aI G 12 (fun _ => 0)]) (by rfl) ?_
  refine z_putF C hmn fl_X5_38 fp_X5 rfl rfl dX5_init_89 rfl (by simp) rfl rfl ?_
  refine z_aload_n C dX5_init_92 rfl 0 rfl ?_
  refine z_bipush (v := 12) C dX5_init_93 (by decide) ?_
  refine z_newa (atype := .int) (ty := .int) (t := 0) (N := 12) (a0 := (12, .inl (fun p => nI ((fun _ => 0) p)))) C rfl rfl ac_int rfl (fun _ => rfl) dX5_init_95 (by decide) (by decide) (by decide) (by decide) (by decide) ?_
  refine z_st (st' := [.ref (base + 27), .ref (base + 16)]) (by rfl) ?_
  refine z_hp (hp' := [xs 0, xs 1, xs 2, xs 3, xs 4, xs 5, xs 6, xs 7, xs 8, xs 9, xs 10, xs 11, xs 12, xs 13, xs 14, xs 15, .inr (5, [.ref (base + 17), .int ((0 : Int32)), .ref (base + 18), .ref (base + 19), .ref (base + 20), .ref (base + 21), .ref (base + 22), .ref (base + 23), .ref (base + 24), .int ((0 : Int32)), .ref (base + 25), .ref (base + 26), .null, .null, .null, .int ((0 : Int32)), .int ((0 : Int32)), .int ((0 : Int32)), .int ((0 : Int32)), .int ((0 : Int32))]), q_aI G 16384 (fun _ => 0), q_aZ G 256 (fun _ => 0), q_aI G 256 (fun _ => 0), q_aI G 256 (fun _ => 0), q_aZ G 256 (fun _ => 0), q_aJ G 256 (fun _ => 0), q_aI G 16384 (fun _ => 0), q_aI G 256 (fun _ => 0), q_aI G 12 (fun _ => 0), q_aI G 12 (fun _ => 0), q_aI G 12 (fun _ => 0)]) (by rfl) ?_
  refine z_putF C hmn fl_X5_41 fp_X5 rfl rfl dX5_init_97 rfl (by simp) rfl rfl ?_
  refine z_aload_n C dX5_init_100 rfl 0 rfl ?_
  refine z_bipush (v := 12) C dX5_init_101 (by decide) ?_
  refine z_newa (atype := .int) (ty := .int) (t := 0) (N := 12) (a0 := (12, .inl (fun p => nI ((fun _ => 0) p)))) C rfl rfl ac_int rfl (fun _ => rfl) dX5_init_103 (by decide) (by decide) (by decide) (by decide) (by decide) ?_
  refine z_st (st' := [.ref (base + 28), .ref (base + 16)]) (by rfl) ?_
  refine z_hp (hp' := [xs 0, xs 1, xs 2, xs 3, xs 4, xs 5, xs 6, xs 7, xs 8, xs 9, xs 10, xs 11, xs 12, xs 13, xs 14, xs 15, .inr (5, [.ref (base + 17), .int ((0 : Int32)), .ref (base + 18), .ref (base + 19), .ref (base + 20), .ref (base + 21), .ref (base + 22), .ref (base + 23), .ref (base + 24), .int ((0 : Int32)), .ref (base + 25), .ref (base + 26), .ref (base + 27), .null, .null, .int ((0 : Int32)), .int ((0 : Int32)), .int ((0 : Int32)), .int ((0 : Int32)), .int ((0 : Int32))]), q_aI G 16384 (fun _ => 0), q_aZ G 256 (fun _ => 0), q_aI G 256 (fun _ => 0), q_aI G 256 (fun _ => 0), q_aZ G 256 (fun _ => 0), q_aJ G 256 (fun _ => 0), q_aI G 16384 (fun _ => 0), q_aI G 256 (fun _ => 0), q_aI G 12 (fun _ => 0), q_aI G 12 (fun _ => 0), q_aI G 12 (fun _ => 0), q_aI G 12 (fun _ => 0)]) (by rfl) ?_
  refine z_putF C hmn fl_X5_44 fp_X5 rfl rfl dX5_init_105 rfl (by simp) rfl rfl ?_
  refine z_aload_n C dX5_init_108 rfl 0 rfl ?_
  refine z_bipush (v := 12) C dX5_init_109 (by decide) ?_
  refine z_newa (atype := .int) (ty := .int) (t := 0) (N := 12) (a0 := (12, .inl (fun _ => 0))) C rfl rfl ac_int rfl (fun _ => rfl) dX5_init_111 (by decide) (by decide) (by decide) (by decide) (by decide) ?_
  refine z_st (st' := [.ref (base + 29), .ref (base + 16)]) (by rfl) ?_
  refine z_hp (hp' := [xs 0, xs 1, xs 2, xs 3, xs 4, xs 5, xs 6, xs 7, xs 8, xs 9, xs 10, xs 11, xs 12, xs 13, xs 14, xs 15, .inr (5, [.ref (base + 17), .int ((0 : Int32)), .ref (base + 18), .ref (base + 19), .ref (base + 20), .ref (base + 21), .ref (base + 22), .ref (base + 23), .ref (base + 24), .int ((0 : Int32)), .ref (base + 25), .ref (base + 26), .ref (base + 27), .ref (base + 28), .null, .int ((0 : Int32)), .int ((0 : Int32)), .int ((0 : Int32)), .int ((0 : Int32)), .int ((0 : Int32))]), q_aI G 16384 (fun _ => 0), q_aZ G 256 (fun _ => 0), q_aI G 256 (fun _ => 0), q_aI G 256 (fun _ => 0), q_aZ G 256 (fun _ => 0), q_aJ G 256 (fun _ => 0), q_aI G 16384 (fun _ => 0), q_aI G 256 (fun _ => 0), q_aI G 12 (fun _ => 0), q_aI G 12 (fun _ => 0), q_aI G 12 (fun _ => 0), q_aI G 12 (fun _ => 0), q_aJ G 12 (fun _ => 0)]) (by rfl) ?_
  refine z_putF C hmn fl_X5_47 fp_X5 rfl rfl dX5_init_113 rfl (by simp) rfl rfl ?_
  refine z_aload_n C dX5_init_116 rfl 0 rfl ?_
  refine z_iconst (v := -1) C dX5_init_117 (by decide) ?_
  refine z_put C fl_X5_50 fp_X5 rfl dX5_init_118 rfl (by simp) rfl rfl ?_
  refine z_iconst (v := 0) C dX5_init_121 (by decide) ?_
  refine z_casti (y := nI 0) (rfl) ?_
  refine z_istore_n (lv' := [(1, .int (nI 0)), (0, .ref (base + 16))]) C dX5_init_122 rfl (by decide) rfl ?_
  refine z_lv (lv' := [(1, .int (nI 0)), (0, .ref (base + 16))]) [0, 1] rfl ?_
  have loop : ∀ (n : Nat) (z : Nat), (z ≤ 6) → (7 ≤ n + z) → z_R p l e (z_rm 2 13 34364) s m ([Value.ref (base + 16)] : List Value).toArray below meth c (MQ below (z_Qc G base (fun v hp' => v = none ∧ hp' = hpM G base xs (r_ini 6) [])) ([Value.ref (base + 16)] : List Value).toArray s 13 34364 (fun z => base ≤ z)) G base 4 13 34364 123 [(1, .int (nI z)), (0, .ref (base + 16))] [] (hpM G base xs (r_ini z) []) := by
    intro n
    induction n with
    | zero => intro z hz hn0; exact absurd hn0 (by omega)
    | succ n ih =>
      intro z hz hn0
      refine z_iload_n C dX5_init_123 rfl 0 rfl ?_
      refine z_bipush (v := 6) C dX5_init_124 (by decide) ?_
      refine z_icmp_ge (tgt := 158) C dX5_init_126 (by decide) (fun h126 => ?_) (fun h126 => ?_)
      · skip
        have ze : z = 6 := by
          rcases Nat.lt_or_ge z 6 with q9 | q9
          · exact absurd h126 (nI_ge q9 (by decide))
          · omega
        exact z_vret C hrt dX5_init_158 (by decide) (by decide) (⟨rfl, by rw [ze]⟩)
      · skip
        have zl : z < 6 := by
          rcases Nat.lt_or_ge z 6 with q9 | q9
          · exact q9
          · exact absurd (nI_le (a := 6) q9 (by omega)) h126
        have hp2 : 1 ≤ 2 ^ z := Nat.one_le_two_pow
        have hp3 : 8 * 2 ^ z ≤ 256 := k_8b z zl
        refine z_bipush (v := 8) C dX5_init_129 (by decide) ?_
        refine z_iload_n C dX5_init_131 rfl 0 rfl ?_
        refine z_ishl C dX5_init_132 ?_
        refine z_casti (y := nI (8 * 2 ^ z)) (nI_8 z (by omega)) ?_
        refine z_istore_n (lv' := [(2, .int (nI (8 * 2 ^ z))), (1, .int (nI z)), (0, .ref (base + 16))]) C dX5_init_133 rfl (by decide) rfl ?_
        refine z_aload_n C dX5_init_134 rfl 2 rfl ?_
        refine z_iload_n C dX5_init_135 rfl 0 rfl ?_
        refine z_iload_n C dX5_init_136 rfl 0 rfl ?_
        refine z_bipush (v := 64) C dX5_init_137 (by decide) ?_
        refine z_icmp_ge (tgt := 146) C dX5_init_139 (by decide) (fun h139 => ?_) (fun h139 => ?_)
        · skip
          have hge : 64 ≤ 8 * 2 ^ z := by
            rcases Nat.lt_or_ge (8 * 2 ^ z) 64 with q9 | q9
            · exact absurd h139 (nI_ge q9 (by decide))
            · exact q9
          refine z_bipush (v := 64) C dX5_init_146 (by decide) ?_
          refine z_casti (y := nI (min (8 * 2 ^ z) 64)) (by rw [Nat.min_eq_right hge]; rfl) ?_
          refine z_callV (rest := []) C (m_X5_addCache l G base xs (r_ini z) [] z (8 * 2 ^ z) (min (8 * 2 ^ z) 64) (r_ini_1 z) (by omega) (by omega) (by omega) (by omega) (by omega)) ml_X5_54 kw_X5_addCache rfl rfl rfl rfl (by simp [Value.category]) dX5_init_148 (by decide) (by decide) (by decide) (by decide) ?_
          rintro _ _ ⟨rfl, rfl⟩
          refine z_st (st' := [.int (nI z)]) rfl ?_
          refine z_istore_n (lv' := [(3, .int (nI z)), (2, .int (nI (8 * 2 ^ z))), (1, .int (nI z)), (0, .ref (base + 16))]) C dX5_init_151 rfl (by decide) rfl ?_
          refine z_lv (lv' := [(1, .int (nI z)), (0, .ref (base + 16))]) [2, 3] rfl ?_
          refine z_iinc (k := 0) (v := nI (z + 1)) (lv' := [(1, .int (nI (z + 1))), (0, .ref (base + 16))]) C dX5_init_152 rfl (nI_1 z) (by decide) rfl ?_
          refine z_goto (tgt := 123) C dX5_init_155 (by decide) ?_
          refine z_lv (lv' := [(1, .int (nI (z + 1))), (0, .ref (base + 16))]) [0, 1] rfl ?_
          exact ih (z + 1) (by omega) (by omega)
        · skip
          have hge : 8 * 2 ^ z < 64 := by
            rcases Nat.lt_or_ge (8 * 2 ^ z) 64 with q9 | q9
            · exact q9
            · exact absurd (nI_le (a := 64) q9 (by omega)) h139
          refine z_iload_n C dX5_init_142 rfl 0 rfl ?_
          refine z_goto (tgt := 148) C dX5_init_143 (by decide) ?_
          refine z_casti (y := nI (min (8 * 2 ^ z) 64)) (by rw [Nat.min_eq_left (by omega)]) ?_
          refine z_callV (rest := []) C (m_X5_addCache l G base xs (r_ini z) [] z (8 * 2 ^ z) (min (8 * 2 ^ z) 64) (r_ini_1 z) (by omega) (by omega) (by omega) (by omega) (by omega)) ml_X5_54 kw_X5_addCache rfl rfl rfl rfl (by simp [Value.category]) dX5_init_148 (by decide) (by decide) (by decide) (by decide) ?_
          rintro _ _ ⟨rfl, rfl⟩
          refine z_st (st' := [.int (nI z)]) rfl ?_
          refine z_istore_n (lv' := [(3, .int (nI z)), (2, .int (nI (8 * 2 ^ z))), (1, .int (nI z)), (0, .ref (base + 16))]) C dX5_init_151 rfl (by decide) rfl ?_
          refine z_lv (lv' := [(1, .int (nI z)), (0, .ref (base + 16))]) [2, 3] rfl ?_
          refine z_iinc (k := 0) (v := nI (z + 1)) (lv' := [(1, .int (nI (z + 1))), (0, .ref (base + 16))]) C dX5_init_152 rfl (nI_1 z) (by decide) rfl ?_
          refine z_goto (tgt := 123) C dX5_init_155 (by decide) ?_
          refine z_lv (lv' := [(1, .int (nI (z + 1))), (0, .ref (base + 16))]) [0, 1] rfl ?_
          exact ih (z + 1) (by omega) (by omega)
  refine z_hp (hp' := hpM G base xs (r_ini 0) []) (by rfl) ?_
  exact loop 7 0 (by omega) (by omega)
