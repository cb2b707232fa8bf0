set_option maxHeartbeats 4000000 in
set_option maxRecDepth 100000 in
theorem m_X4_takeObject (l : Launch) (G : z_G) (base : Nat) (sc td : Nat → Int32) (q : q_T) (nc : Nat) (cf : Nat → Nat → Int32) (pl : Nat → Nat) (S : Nat → Option s_T) (mem : Nat → Nat) (hp : List va_E) (hC : C_ok G base sc td q nc cf pl S mem hp) (kt ko kb : Nat → Nat) (hX : X_ok nc q cf S kt ko kb) (c0 : Nat) (hc0 : c0 < nc) : z_M l G base yX4_takeObject cX4_takeObject 5 (some .int) 4 2 68 [.ref (base + 0), .ref (base + (pl c0))] hp (fun v hp' => ∃ x' sc' q' cf' S', v = some (.int x') ∧ T_take kt ko kb sc q cf S c0 x' sc' q' cf' S' ∧ C_ok G base sc' td q' nc cf' pl S' mem hp' ∧ C_fr hp hp') := by
  refine z_M.of (lv0 := [(0, .ref (base + 0)), (1, .ref (base + (pl c0)))]) (by decide) (Nat.le_of_ble_eq_true rfl) rfl ?_
  intro p e s m below meth c hmn hrt C
  obtain ⟨hk0, hk3, hk4, hk5, hkt, hkt2, hko, hkb, hkb2⟩ := hX.kf c0 hc0
  have tail : ∀ (sc1 : Nat → Int32) (q1 : q_T) (cf1 : Nat → Nat → Int32) (S1 : Nat → Option s_T) (hp1 : List va_E) (P : Nat) (j1 : Nat) (r1 : Nat) (n1 : Nat) (ob1 : Nat) (f1 : Nat → Nat) (w1 : Int64), (C_ok G base sc1 td q1 nc cf1 pl S1 mem hp1) → (C_fr hp hp1) → (P < 256) → (S1 P = some (j1, r1, n1, ob1, f1, w1)) → (1 ≤ n1 ∧ n1 ≤ ob1 ∧ ob1 ≤ 64 ∧ f1 (n1 - 1) < 64) → (cf1 c0 3 = nI (kt c0)) → (T_take kt ko kb sc q cf S c0 (nI (P * 64 + f1 (n1 - 1) * kt c0)) sc1 q1 (va_up cf1 c0 (c_tk (cf1 c0) P)) (va_up S1 P (some (j1, r1, n1 - 1, ob1, f1, l_set w1 (f1 (n1 - 1)))))) → z_R p l e (z_rm 4 2 68) s m ([Value.ref (base + 0), .ref (base + (pl c0))] : List Value).toArray below meth c (MQ below (z_Qc G base (fun v hp' => ∃ x' sc' q' cf' S', v = some (.int x') ∧ T_take kt ko kb sc q cf S c0 x' sc' q' cf' S' ∧ C_ok G base sc' td q' nc cf' pl S' mem hp' ∧ C_fr hp hp')) ([Value.ref (base + 0), .ref (base + (pl c0))] : List Value).toArray s 2 68 (fun z => base ≤ z)) G base 5 2 68 27 [(2, .int (nI P)), (0, .ref (base + 0)), (1, .ref (base + (pl c0)))] [] hp1 := by
    intro sc1 q1 cf1 S1 hp1 P j1 r1 n1 ob1 f1 w1 hC1 hF1 hP hS1 hn1 hk31 hT1
    refine z_aload_n C dX4_takeObject_27 rfl 1 rfl ?_
    refine z_iload_n C dX4_takeObject_28 rfl 0 rfl ?_
    refine z_callV (rest := []) C (m_X4_slabAt l G base _ _ _ _ _ _ _ _ _ hC1 (nI P)) ml_X4_187 kw_X4_slabAt hC1.1 rfl rfl rfl (by simp [Value.category]) dX4_takeObject_29 (by decide) (by decide) (by decide) (by decide) ?_
    rintro _ h9 ⟨rfl, e9⟩
    replace e9 := e9.symm
    subst e9
    refine z_st (st' := [va_rf (c_sa base S1 (nI P))]) rfl ?_
    skip
    · skip
      refine z_st (st' := [.ref (base + j1)]) (by show [va_rf (c_sa base S1 (nI P))] = _; rw [c_sa_at hP]; unfold c_sl; rw [hS1]; rfl) ?_
      refine z_astore_n (lv' := [(3, .ref (base + j1)), (2, .int (nI P)), (0, .ref (base + 0)), (1, .ref (base + (pl c0)))]) C dX4_takeObject_32 rfl (by decide) rfl ?_
      refine z_aload_n C dX4_takeObject_33 rfl 0 rfl ?_
      refine z_ifnonnull_s (tgt := 41) C dX4_takeObject_34 (by decide) ?_
      refine z_aload_n C dX4_takeObject_41 rfl 0 rfl ?_
      refine z_callV (rest := []) C (m_X3_takeFront l G base _ j1 r1 n1 ob1 f1 w1 (hC1.sj hS1) (hC1.sr hS1) (hC1.jr hS1) hn1.1 hn1.2.1 hn1.2.2.1 hn1.2.2.2) ml_X4_206 kw_X3_takeFront (hC1.sj hS1) rfl rfl rfl (by simp [Value.category]) dX4_takeObject_42 (by decide) (by decide) (by decide) (by decide) ?_
      rintro _ _ ⟨rfl, rfl⟩
      refine z_st (st' := [.int (nI (f1 (n1 - 1)))]) rfl ?_
      have hC2 := hC1.setj (n' := n1 - 1) (ob' := ob1) (w' := l_set w1 (f1 (n1 - 1))) hS1
      refine z_istore (lv' := [(4, .int (nI (f1 (n1 - 1)))), (3, .ref (base + j1)), (2, .int (nI P)), (0, .ref (base + 0)), (1, .ref (base + (pl c0)))]) C dX4_takeObject_45 (by decide) rfl ?_
      refine z_iload C dX4_takeObject_47 0 rfl ?_
      refine z_iconst (v := -1) C dX4_takeObject_49 (by decide) ?_
      refine z_icmp_ne (tgt := 55) C dX4_takeObject_50 (by decide) (fun h50 => ?_) (fun h50 => absurd h50 (nI_m1 (by have := hn1.2.2.2; omega)))
      refine z_iload_n C dX4_takeObject_55 rfl 2 rfl ?_
      refine z_aload_n C dX4_takeObject_56 rfl 4 rfl ?_
      refine z_get C fl_X4_98 dX4_takeObject_57 (hC2.ca hc0) rfl ?_
      refine z_icmp_ne (tgt := 68) C dX4_takeObject_60 (by decide) (fun h60 => ?_) (fun h60 => ?_)
      · skip
        refine z_aload_n C dX4_takeObject_68 rfl 4 rfl ?_
        refine z_dup C dX4_takeObject_69 rfl ?_
        refine z_get C fl_X4_184 dX4_takeObject_70 (hC2.ca hc0) rfl ?_
        refine z_iconst (v := 1) C dX4_takeObject_73 (by decide) ?_
        refine z_iadd C dX4_takeObject_74 ?_
        refine z_put C fl_X4_184 fp_X1 rfl dX4_takeObject_75 (hC2.ca hc0) (by simp) rfl rfl ?_
        refine z_iload_n C dX4_takeObject_78 rfl 2 rfl ?_
        refine z_bipush (v := 64) C dX4_takeObject_79 (by decide) ?_
        refine z_imul C dX4_takeObject_81 ?_
        refine z_casti (y := nI (P * 64)) (pk_mul _ 64) ?_
        refine z_iload C dX4_takeObject_82 0 rfl ?_
        refine z_aload_n C dX4_takeObject_84 rfl 4 rfl ?_
        refine z_get C fl_X4_209 dX4_takeObject_85 (z_self (hC2.ca hc0)) rfl ?_
        refine z_casti (y := nI (kt c0)) (hk31) ?_
        refine z_imul C dX4_takeObject_88 ?_
        refine z_casti (y := nI (f1 (n1 - 1) * kt c0)) (pk_mul _ _) ?_
        refine z_iadd C dX4_takeObject_89 ?_
        refine z_casti (y := nI (P * 64 + f1 (n1 - 1) * kt c0)) (nI_add _ _) ?_
        exact z_iret C hrt rfl dX4_takeObject_90 (by decide) (by decide) (⟨_, _, _, _, _, rfl, hT1, (by
          have hg : c_tk (cf1 c0) P = upd (cf1 c0) 7 (cf1 c0 7 + 1) := by
            unfold c_tk
            rw [if_neg h60]
          rw [hg]
          have h9 := hC2.setc hc0 (upd (cf1 c0) 7 (cf1 c0 7 + 1))
          exact h9), (hF1.set (Or.inr (hC1.s30 hS1).1)).set (hC1.cp hc0)⟩)
      · skip
        refine z_aload_n C dX4_takeObject_63 rfl 4 rfl ?_
        refine z_iconst (v := -1) C dX4_takeObject_64 (by decide) ?_
        refine z_put C fl_X4_98 fp_X1 rfl dX4_takeObject_65 (hC2.ca hc0) (by simp) rfl rfl ?_
        refine z_aload_n C dX4_takeObject_68 rfl 4 rfl ?_
        refine z_dup C dX4_takeObject_69 rfl ?_
        refine z_get C fl_X4_184 dX4_takeObject_70 (z_self (hC2.ca hc0)) rfl ?_
        refine z_iconst (v := 1) C dX4_takeObject_73 (by decide) ?_
        refine z_iadd C dX4_takeObject_74 ?_
        refine z_put C fl_X4_184 fp_X1 rfl dX4_takeObject_75 (z_self (hC2.ca hc0)) (by simp) rfl rfl ?_
        refine z_iload_n C dX4_takeObject_78 rfl 2 rfl ?_
        refine z_bipush (v := 64) C dX4_takeObject_79 (by decide) ?_
        refine z_imul C dX4_takeObject_81 ?_
        refine z_casti (y := nI (P * 64)) (pk_mul _ 64) ?_
        refine z_iload C dX4_takeObject_82 0 rfl ?_
        refine z_aload_n C dX4_takeObject_84 rfl 4 rfl ?_
        refine z_get C fl_X4_209 dX4_takeObject_85 (z_self (z_self (hC2.ca hc0))) rfl ?_
        refine z_casti (y := nI (kt c0)) (hk31) ?_
        refine z_imul C dX4_takeObject_88 ?_
        refine z_casti (y := nI (f1 (n1 - 1) * kt c0)) (pk_mul _ _) ?_
        refine z_iadd C dX4_takeObject_89 ?_
        refine z_casti (y := nI (P * 64 + f1 (n1 - 1) * kt c0)) (nI_add _ _) ?_
        exact z_iret C hrt rfl dX4_takeObject_90 (by decide) (by decide) (⟨_, _, _, _, _, rfl, hT1, (by
          have hg : c_tk (cf1 c0) P = upd (upd (cf1 c0) 8 (-1)) 7 (cf1 c0 7 + 1) := by
            unfold c_tk
            rw [if_pos h60]
          rw [hg]
          have h9 := hC2.setc hc0 (upd (upd (cf1 c0) 8 (-1)) 7 (cf1 c0 7 + 1))
          rw [List.set_set]
          exact h9), ((hF1.set (Or.inr (hC1.s30 hS1).1)).set (hC1.cp hc0)).set (hC1.cp hc0)⟩)
  refine z_aload_n C dX4_takeObject_0 rfl 0 rfl ?_
  refine z_aload_n C dX4_takeObject_1 rfl 1 rfl ?_
  refine z_callV (rest := []) C (m_X4_partlyLiveSlab l G base sc td q nc cf pl S mem _ hC kt ko kb hX c0 hc0) ml_X4_200 kw_X4_partlyLiveSlab hC.1 rfl rfl rfl (by simp [Value.category]) dX4_takeObject_2 (by decide) (by decide) (by decide) (by decide) ?_
  rintro _ h9 ⟨rfl, e9⟩
  replace e9 := e9.symm
  subst e9
  refine z_st (st' := [.int (oI (c_part q S c0))]) rfl ?_
  rcases opt_cases (c_part q S c0) with hpt | ⟨P, hpt⟩
  · skip
    refine z_casti (y := -1) (by rw [hpt]; rfl) ?_
    refine z_istore_n (lv' := [(2, .int ((-1 : Int32))), (0, .ref (base + 0)), (1, .ref (base + (pl c0)))]) C dX4_takeObject_5 rfl (by decide) rfl ?_
    refine z_iload_n C dX4_takeObject_6 rfl 0 rfl ?_
    refine z_iconst (v := -1) C dX4_takeObject_7 (by decide) ?_
    refine z_icmp_ne (tgt := 16) C dX4_takeObject_8 (by decide) (fun h8 => absurd h8 (by decide)) (fun h8 => ?_)
    refine z_aload_n C dX4_takeObject_11 rfl 2 rfl ?_
    refine z_get C fl_X4_98 dX4_takeObject_12 (hC.ca hc0) rfl ?_
    rcases hX.em c0 hc0 with hE | ⟨P, j1, r1, n1, ob1, f1, w1, hP, hE, hS, hn, -⟩
    · skip
      refine z_casti (y := -1) hE ?_
      refine z_istore_n (lv' := [(2, .int ((-1 : Int32))), (0, .ref (base + 0)), (1, .ref (base + (pl c0)))]) C dX4_takeObject_15 rfl (by decide) rfl ?_
      refine z_iload_n C dX4_takeObject_16 rfl 0 rfl ?_
      refine z_iconst (v := -1) C dX4_takeObject_17 (by decide) ?_
      refine z_icmp_ne (tgt := 27) C dX4_takeObject_18 (by decide) (fun h18 => absurd h18 (by decide)) (fun h18 => ?_)
      refine z_aload_n C dX4_takeObject_21 rfl 1 rfl ?_
      refine z_aload_n C dX4_takeObject_22 rfl 2 rfl ?_
      refine z_callV (rest := []) C (m_X4_newSlab l G base sc td q nc cf pl S mem _ hC kt ko kb hX c0 hc0) ml_X4_203 kw_X4_newSlab hC.1 rfl rfl rfl (by simp [Value.category]) dX4_takeObject_23 (by decide) (by decide) (by decide) (by decide) ?_
      rintro _ hp3 ⟨x3, rfl, hN⟩
      refine z_st (st' := [.int (x3)]) rfl ?_
      rcases hN with ⟨hjt, rfl, hC3, hF3⟩ | ⟨P, j1, r1, f1, hjt, hP, rfl, hf1, hC3, hF3⟩
      · skip
        refine z_istore_n (lv' := [(2, .int ((-1 : Int32))), (0, .ref (base + 0)), (1, .ref (base + (pl c0)))]) C dX4_takeObject_26 rfl (by decide) rfl ?_
        refine z_lv (lv' := [(2, .int ((-1 : Int32))), (0, .ref (base + 0)), (1, .ref (base + (pl c0)))]) [0, 1, 2] rfl ?_
        refine z_aload_n C dX4_takeObject_27 rfl 1 rfl ?_
        refine z_iload_n C dX4_takeObject_28 rfl 0 rfl ?_
        refine z_callV (rest := []) C (m_X4_slabAt l G base _ _ _ _ _ _ _ _ _ hC3 ((-1 : Int32))) ml_X4_187 kw_X4_slabAt hC3.1 rfl rfl rfl (by simp [Value.category]) dX4_takeObject_29 (by decide) (by decide) (by decide) (by decide) ?_
        rintro _ h9 ⟨rfl, e9⟩
        replace e9 := e9.symm
        subst e9
        refine z_st (st' := [va_rf (c_sa base S ((-1 : Int32)))]) rfl ?_
        skip
        · skip
          refine z_st (st' := [.null]) (by show [va_rf (c_sa base S (-1))] = _; rw [show c_sa base S (-1) = none from if_neg (by decide)]; rfl) ?_
          refine z_astore_nq (x := none) (lv' := [(3, .null), (2, .int ((-1 : Int32))), (0, .ref (base + 0)), (1, .ref (base + (pl c0)))]) C dX4_takeObject_32 rfl (by decide) rfl ?_
          refine z_aload_nq (x := none) C dX4_takeObject_33 rfl 0 rfl ?_
          refine z_ifnonnull_n C dX4_takeObject_34 ?_
          refine z_iconst (v := -1) C dX4_takeObject_37 (by decide) ?_
          refine z_goto (tgt := 45) C dX4_takeObject_38 (by decide) ?_
          refine z_istore (lv' := [(4, .int ((-1 : Int32))), (3, .null), (2, .int ((-1 : Int32))), (0, .ref (base + 0)), (1, .ref (base + (pl c0)))]) C dX4_takeObject_45 (by decide) rfl ?_
          refine z_iload C dX4_takeObject_47 0 rfl ?_
          refine z_iconst (v := -1) C dX4_takeObject_49 (by decide) ?_
          refine z_icmp_ne (tgt := 55) C dX4_takeObject_50 (by decide) (fun h50 => absurd h50 (by decide)) (fun h50 => ?_)
          refine z_iconst (v := -1) C dX4_takeObject_53 (by decide) ?_
          exact z_iret C hrt rfl dX4_takeObject_54 (by decide) (by decide) (⟨_, _, _, _, _, rfl, Or.inr (Or.inl ⟨hpt, hE, hjt, rfl, rfl, rfl, rfl, rfl⟩), hC3, hF3⟩)
      · skip
        refine z_istore_n (lv' := [(2, .int (nI P)), (0, .ref (base + 0)), (1, .ref (base + (pl c0)))]) C dX4_takeObject_26 rfl (by decide) rfl ?_
        refine z_lv (lv' := [(2, .int (nI P)), (0, .ref (base + 0)), (1, .ref (base + (pl c0)))]) [0, 1, 2] rfl ?_
        refine z_wid (k := 2) (n := 68) (by decide) (by decide) ?_
        have hf0 : f1 (kb c0 - 1) = 0 := by rw [hf1 _ (by omega)]; omega
        have h8 : ¬ nI P = (va_up cf c0 (upd (cf c0) 6 (cf c0 6 + 1))) c0 8 := by
          rw [va_up_self]
          intro h
          exact nI_m1 (n := P) (by omega) (h.trans hE)
        refine tail _ _ _ _ _ P j1 r1 (kb c0) (kb c0) f1 0 hC3 hF3 hP va_up_sf ⟨hkb, by omega, hkb2, by omega⟩ (by rw [va_up_self]; exact hk3) (Or.inr (Or.inr ⟨P, j1, r1, f1, hpt, hE, hjt, hP, hf1, by rw [hf0, Nat.zero_mul, Nat.add_zero], rfl, rfl, ?_, ?_⟩))
        · unfold c_tk
          rw [if_neg h8, va_up_up, va_up_self]
          rfl
        · rw [va_up_up, hf0]
    · skip
      refine z_casti (y := nI P) hE ?_
      obtain ⟨hno, hob, hfl⟩ := hX.sf _ _ _ _ _ _ _ hS
      have hwh : c_part q S c0 = some P ∨ (c_part q S c0 = none ∧ cf c0 8 = nI P) := Or.inr ⟨hpt, hE⟩
      refine z_istore_n (lv' := [(2, .int (nI P)), (0, .ref (base + 0)), (1, .ref (base + (pl c0)))]) C dX4_takeObject_15 rfl (by decide) rfl ?_
      refine z_iload_n C dX4_takeObject_16 rfl 0 rfl ?_
      refine z_iconst (v := -1) C dX4_takeObject_17 (by decide) ?_
      refine z_icmp_ne (tgt := 27) C dX4_takeObject_18 (by decide) (fun h18 => ?_) (fun h18 => absurd h18 (nI_m1 (by omega)))
      refine z_lv (lv' := [(2, .int (nI P)), (0, .ref (base + 0)), (1, .ref (base + (pl c0)))]) [0, 1, 2] rfl ?_
      refine z_wid (k := 2) (n := 68) (by decide) (by decide) ?_
      exact tail sc q cf S _ P j1 r1 n1 ob1 f1 w1 hC (C_fr.rf _) hP hS ⟨by omega, hno, hob, hfl _ (by omega)⟩ hk3 (Or.inl ⟨P, j1, r1, n1, ob1, f1, w1, hwh, hP, hS, by omega, rfl, rfl, rfl, rfl, rfl⟩)
  · skip
    refine z_casti (y := nI P) (by rw [hpt]; rfl) ?_
    obtain ⟨hP, j1, r1, n1, ob1, f1, w1, hS, hus, hn0, hn⟩ := c_part_some hpt
    obtain ⟨hno, hob, hfl⟩ := hX.sf _ _ _ _ _ _ _ hS
    have hwh : c_part q S c0 = some P ∨ (c_part q S c0 = none ∧ cf c0 8 = nI P) := Or.inl hpt
    refine z_istore_n (lv' := [(2, .int (nI P)), (0, .ref (base + 0)), (1, .ref (base + (pl c0)))]) C dX4_takeObject_5 rfl (by decide) rfl ?_
    refine z_iload_n C dX4_takeObject_6 rfl 0 rfl ?_
    refine z_iconst (v := -1) C dX4_takeObject_7 (by decide) ?_
    refine z_icmp_ne (tgt := 16) C dX4_takeObject_8 (by decide) (fun h8 => ?_) (fun h8 => absurd h8 (nI_m1 (by omega)))
    refine z_iload_n C dX4_takeObject_16 rfl 0 rfl ?_
    refine z_iconst (v := -1) C dX4_takeObject_17 (by decide) ?_
    refine z_icmp_ne (tgt := 27) C dX4_takeObject_18 (by decide) (fun h18 => ?_) (fun h18 => absurd h18 (nI_m1 (by omega)))
    refine z_lv (lv' := [(2, .int (nI P)), (0, .ref (base + 0)), (1, .ref (base + (pl c0)))]) [0, 1, 2] rfl ?_
    refine z_wid (k := 2) (n := 68) (by decide) (by decide) ?_
    exact tail sc q cf S _ P j1 r1 n1 ob1 f1 w1 hC (C_fr.rf _) hP hS ⟨by omega, hno, hob, hfl _ (by omega)⟩ hk3 (Or.inl ⟨P, j1, r1, n1, ob1, f1, w1, hwh, hP, hS, by omega, rfl, rfl, rfl, rfl, rfl⟩)

set_option maxHeartbeats 4000000 in
set_option maxRecDepth 100000 in
theorem m_X4_giveObject (l : Launch) (G : z_G) (base : Nat) (sc td : Nat → Int32) (q : q_T) (nc : Nat) (cf : Nat → Nat → Int32) (pl : Nat → Nat) (S : Nat → Option s_T) (mem : Nat → Nat) (hp : List va_E) (hC : C_ok G base sc td q nc cf pl S mem hp) (kt ko kb : Nat → Nat) (hX : X_ok nc q cf S kt ko kb) (c0 : Nat) (hc0 : c0 < nc) (a P i : Nat) (hG : H_give q S kt kb c0 a P i) : z_M l G base yX4_giveObject cX4_giveObject 6 (some .int) 4 0 0 [.ref (base + 0), .ref (base + (pl c0)), .int (nI a)] hp (fun v hp' => (∃ x' sc' q' cf' S', v = some (.int x') ∧ T_give sc q cf S c0 P i x' sc' q' cf' S' ∧ C_ok G base sc' td q' nc cf' pl S' mem hp' ∧ C_fr hp hp')) := by
  refine z_M.of (lv0 := [(0, .ref (base + 0)), (1, .ref (base + (pl c0))), (2, .int (nI a))]) (by decide) (Nat.le_of_ble_eq_true rfl) rfl ?_
  intro p e s m below meth c hmn hrt C
  obtain ⟨hk0, hk3, hk4, hk5, hkt, hkt2, hko, hkb, hkb2⟩ := hX.kf c0 hc0
  obtain ⟨ha, hP, hq1, hfo, hix, j1, r1, n1, f1, w1, hS, hn⟩ := hG
  have hPa := j_fo_le (by omega) hfo
  obtain ⟨hie, hilt, -⟩ := j_ix_some hix
  refine z_aload_n C dX4_giveObject_0 rfl 0 rfl ?_
  refine z_get C fl_X4_19 dX4_giveObject_1 hC.1 rfl ?_
  refine z_iload_n C dX4_giveObject_4 rfl 2 rfl ?_
  refine z_bipush (v := 64) C dX4_giveObject_5 (by decide) ?_
  refine z_idiv C dX4_giveObject_7 (by decide) ?_
  refine z_casti (y := nI (a / 64)) (pk_div (d := 64) (by omega) (by omega) (by decide)) ?_
  refine z_callV (rest := []) C (C_same hC (fun xs tl => m_X0_firstOf l G base xs sc td q tl hX.q (nI (a / 64)))) ml_X4_147 kw_X0_firstOf hC.2.2.2.1.1 rfl rfl rfl (by simp [Value.category]) dX4_giveObject_8 (by decide) (by decide) (by decide) (by decide) ?_
  rintro _ h9 ⟨rfl, e9⟩
  replace e9 := e9.symm
  subst e9
  refine z_st (st' := [.int (oI (j_fo q.1 (nI (a / 64))))]) rfl ?_
  refine z_casti (y := nI P) (by rw [hfo]; rfl) ?_
  refine z_istore_n (lv' := [(3, .int (nI P)), (0, .ref (base + 0)), (1, .ref (base + (pl c0))), (2, .int (nI a))]) C dX4_giveObject_11 rfl (by decide) rfl ?_
  refine z_aload_n C dX4_giveObject_12 rfl 1 rfl ?_
  refine z_iload_n C dX4_giveObject_13 rfl 0 rfl ?_
  refine z_callV (rest := []) C (m_X4_slabAt l G base sc td q nc cf pl S mem _ hC (nI P)) ml_X4_187 kw_X4_slabAt hC.1 rfl rfl rfl (by simp [Value.category]) dX4_giveObject_14 (by decide) (by decide) (by decide) (by decide) ?_
  rintro _ h9 ⟨rfl, e9⟩
  replace e9 := e9.symm
  subst e9
  refine z_st (st' := [va_rf (c_sa base S (nI P))]) rfl ?_
  skip
  · skip
    refine z_st (st' := [.ref (base + j1)]) (by show [va_rf (c_sa base S (nI P))] = _; rw [c_sa_at hP]; unfold c_sl; rw [hS]; rfl) ?_
    refine z_astore (lv' := [(4, .ref (base + j1)), (3, .int (nI P)), (0, .ref (base + 0)), (1, .ref (base + (pl c0))), (2, .int (nI a))]) C dX4_giveObject_17 (by decide) rfl ?_
    refine z_aload C dX4_giveObject_19 0 rfl ?_
    refine z_ifnonnull_s (tgt := 27) C dX4_giveObject_21 (by decide) ?_
    refine z_aload C dX4_giveObject_27 0 rfl ?_
    refine z_aload_n C dX4_giveObject_29 rfl 3 rfl ?_
    refine z_iload_n C dX4_giveObject_30 rfl 4 rfl ?_
    refine z_iload_n C dX4_giveObject_31 rfl 1 rfl ?_
    refine z_bipush (v := 64) C dX4_giveObject_32 (by decide) ?_
    refine z_imul C dX4_giveObject_34 ?_
    refine z_casti (y := nI (P * 64)) (pk_mul _ 64) ?_
    refine z_isub C dX4_giveObject_35 ?_
    refine z_casti (y := nI (a - P * 64)) (pk_sub (by omega)) ?_
    refine z_callV (rest := [.ref (base + j1)]) C (m_X1_indexAt l G base _ (pl c0) (cf c0) (hC.ca hc0) (a - P * 64) (kt c0) (kb c0) hk3 hk5 hkt hkt2 (by omega) (by omega)) ml_X4_194 kw_X1_indexAt (hC.ca hc0) rfl rfl rfl (by simp [Value.category]) dX4_giveObject_36 (by decide) (by decide) (by decide) (by decide) ?_
    rintro _ h9 ⟨rfl, e9⟩
    replace e9 := e9.symm
    subst e9
    refine z_st (st' := [.int (oI (j_ix (a - P * 64) (kt c0) (kb c0))), .ref (base + j1)]) rfl ?_
    refine z_casti (y := nI i) (by rw [hix]; rfl) ?_
    refine z_callV (rest := []) C (m_X3_putFront l G base _ j1 r1 n1 (kb c0) f1 w1 (hC.sj hS) (hC.sr hS) (hC.jr hS) hn hkb2 i hilt) ml_X4_226 kw_X3_putFront (hC.sj hS) rfl rfl rfl (by simp [Value.category]) dX4_giveObject_39 (by decide) (by decide) (by decide) (by decide) ?_
    rintro _ _ ⟨rfl, rfl⟩
    refine z_st (st' := []) rfl ?_
    have hC2 := hC.sets (n' := n1 + 1) (ob' := kb c0) (f' := va_up f1 n1 i) (w' := l_clr w1 i) hS
    refine z_aload_n C dX4_giveObject_42 rfl 3 rfl ?_
    refine z_dup C dX4_giveObject_43 rfl ?_
    refine z_get C fl_X4_184 dX4_giveObject_44 (hC2.ca hc0) rfl ?_
    refine z_iconst (v := 1) C dX4_giveObject_47 (by decide) ?_
    refine z_isub C dX4_giveObject_48 ?_
    refine z_put C fl_X4_184 fp_X1 rfl dX4_giveObject_49 (hC2.ca hc0) (by simp) rfl rfl ?_
    have hC3 := hC2.setc hc0 (upd (cf c0) 7 (cf c0 7 - 1))
    have hX3 : X_ok nc q (va_up cf c0 (upd (cf c0) 7 (cf c0 7 - 1))) (va_up S P (some (j1, r1, n1 + 1, kb c0, va_up f1 n1 i, l_clr w1 i))) kt ko kb := X_ok.gv hX hc0 hS hn hilt hkb2
    refine z_aload C dX4_giveObject_52 0 rfl ?_
    refine z_callV (rest := []) C (m_X3_liveCount l G base _ j1 r1 (n1 + 1) (kb c0) _ _ (hC3.sj va_up_sf) (hC3.sr va_up_sf) (hC3.jr va_up_sf) (by omega)) ml_X4_229 kw_X3_liveCount (hC3.sj va_up_sf) rfl rfl rfl (by simp [Value.category]) dX4_giveObject_54 (by decide) (by decide) (by decide) (by decide) ?_
    rintro _ h9 ⟨rfl, e9⟩
    replace e9 := e9.symm
    subst e9
    refine z_st (st' := [.int (nI (kb c0 - (n1 + 1)))]) rfl ?_
    refine z_istore (lv' := [(5, .int (nI (kb c0 - (n1 + 1)))), (4, .ref (base + j1)), (3, .int (nI P)), (0, .ref (base + 0)), (1, .ref (base + (pl c0))), (2, .int (nI a))]) C dX4_giveObject_57 (by decide) rfl ?_
    refine z_iload C dX4_giveObject_59 0 rfl ?_
    refine z_if_ne (tgt := 80) C dX4_giveObject_61 (by decide) (fun h61 => ?_) (fun h61 => ?_)
    · skip
      have hob : ¬ kb c0 = n1 + 1 := fun z => h61 (by rw [z, Nat.sub_self]; rfl)
      refine z_iload C dX4_giveObject_80 0 rfl ?_
      refine z_if_ne (tgt := 91) C dX4_giveObject_82 (by decide) (fun h82 => ?_) (fun h82 => absurd h82 (h61))
      refine z_iload C dX4_giveObject_91 0 rfl ?_
      exact z_iret C hrt rfl dX4_giveObject_93 (by decide) (by decide) (⟨_, _, _, _, _, rfl, ⟨j1, r1, n1, kb c0, f1, w1, hS, rfl, rfl, Or.inl ⟨hob, rfl, rfl, rfl⟩⟩, hC3, (((C_fr.rf hp).set (Or.inr (hC.s30 hS).2)).set (Or.inr (hC.s30 hS).1)).set (hC.cp hc0)⟩)
    · skip
      have hob : kb c0 = n1 + 1 := by
        have := (nI_eq (b := 0) (by omega) (by decide)).mp h61
        omega
      refine z_aload_n C dX4_giveObject_64 rfl 4 rfl ?_
      refine z_get C fl_X4_98 dX4_giveObject_65 (z_self (hC2.ca hc0)) rfl ?_
      refine z_iconst (v := -1) C dX4_giveObject_68 (by decide) ?_
      refine z_icmp_ne (tgt := 80) C dX4_giveObject_69 (by decide) (fun h69 => ?_) (fun h69 => ?_)
      · skip
        refine z_iload C dX4_giveObject_80 0 rfl ?_
        refine z_if_ne (tgt := 91) C dX4_giveObject_82 (by decide) (fun h82 => absurd h82 (fun z => z h61)) (fun h82 => ?_)
        refine z_aload_n C dX4_giveObject_85 rfl 3 rfl ?_
        refine z_aload_n C dX4_giveObject_86 rfl 4 rfl ?_
        refine z_iload_n C dX4_giveObject_87 rfl 2 rfl ?_
        refine z_callV (rest := []) C (m_X4_dropSlab l G base sc td q nc (va_up cf c0 (upd (cf c0) 7 (cf c0 7 - 1))) pl _ mem _ hC3 kt ko kb hX3 c0 hc0 P hP hq1) ml_X4_101 kw_X4_dropSlab hC3.1 rfl rfl rfl (by simp [Value.category]) dX4_giveObject_88 (by decide) (by decide) (by decide) (by decide) ?_
        rintro _ hp4 ⟨rfl, hC4, hF4⟩
        rw [va_up_up, va_up_self] at hC4
        refine z_st (st' := []) rfl ?_
        refine z_iload C dX4_giveObject_91 0 rfl ?_
        exact z_iret C hrt rfl dX4_giveObject_93 (by decide) (by decide) (⟨_, _, _, _, _, rfl, ⟨j1, r1, n1, kb c0, f1, w1, hS, rfl, rfl, Or.inr (Or.inr ⟨hob, h69, rfl, rfl, rfl⟩)⟩, hC4, ((((C_fr.rf hp).set (Or.inr (hC.s30 hS).2)).set (Or.inr (hC.s30 hS).1)).set (hC.cp hc0)).tr hF4⟩)
      · skip
        refine z_aload_n C dX4_giveObject_72 rfl 4 rfl ?_
        refine z_iload_n C dX4_giveObject_73 rfl 2 rfl ?_
        refine z_put C fl_X4_98 fp_X1 rfl dX4_giveObject_74 (z_self (hC2.ca hc0)) (by simp) rfl rfl ?_
        refine z_goto (tgt := 91) C dX4_giveObject_77 (by decide) ?_
        refine z_iload C dX4_giveObject_91 0 rfl ?_
        exact z_iret C hrt rfl dX4_giveObject_93 (by decide) (by decide) (⟨_, _, _, _, _, rfl, ⟨j1, r1, n1, kb c0, f1, w1, hS, rfl, rfl, Or.inr (Or.inl ⟨hob, h69, rfl, rfl, rfl⟩)⟩, (by
          have h9 := hC2.setc hc0 (upd (upd (cf c0) 7 (cf c0 7 - 1)) 8 (nI P))
          rw [List.set_set]
          exact h9), ((((C_fr.rf hp).set (Or.inr (hC.s30 hS).2)).set (Or.inr (hC.s30 hS).1)).set (hC.cp hc0)).set (hC.cp hc0)⟩)
