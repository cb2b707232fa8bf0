set_option maxHeartbeats 4000000 in
set_option maxRecDepth 100000 in
theorem m_X5_alloc (l : Launch) (G : z_G) (base : Nat) (xs : Nat → va_E) (r : r_T) (tl : List va_E) (nc : Nat) (hw : r_wf r nc) (b : Nat) (hb : 1 ≤ b) (hb2 : b ≤ 4096) (hst : ¬ r.1 0 = 0) : z_M l G base yX5_alloc cX5_alloc 4 (some .int) 7 0 0 [.ref (base + 16), .int (nI b)] (hpM G base xs r tl) (fun v hp' => v = some (.int (oI (r_alO r b))) ∧ hp' = hpM G base xs (r_alS r b) tl) := by
  refine z_M.of (lv0 := [(0, .ref (base + 16)), (1, .int (nI b))]) (by decide) (Nat.le_of_ble_eq_true rfl) rfl ?_
  intro p e s m below meth c hmn hrt C
  have hk12 := k_cls_le (b := b)
  have hnc := hw.2.2.1.2
  refine z_aload_n C dX5_alloc_0 rfl 0 rfl ?_
  refine z_get C fl_X5_58 dX5_alloc_1 rfl rfl ?_
  refine z_if_eq (tgt := 18) C dX5_alloc_4 (by decide) (fun h4 => absurd h4 (hst)) (fun h4 => ?_)
  refine z_iload_n C dX5_alloc_7 rfl 1 rfl ?_
  refine z_iconst (v := 1) C dX5_alloc_8 (by decide) ?_
  refine z_sipush (v := 4096) C dX5_alloc_9 (by decide) ?_
  refine z_callS (rest := []) C (m_X5_in l G base _ (nI b) ((1 : Int32)) ((4096 : Int32))) ml_X5_62 kw_X5_in rfl rfl (by simp [Value.category]) dX5_alloc_12 (by decide) (by decide) (by decide) (by decide) ?_
  rintro _ _ ⟨rfl, rfl⟩
  refine z_st (st' := [.int ((bI (decide (1 ≤ nI b ∧ nI b ≤ 4096))))]) rfl ?_
  refine z_if_ne (tgt := 20) C dX5_alloc_15 (by decide) (fun h15 => ?_) (fun h15 => absurd h15 (fun q => bI_eq q ⟨nI_le (a := 1) hb (by omega), nI_le (b := 4096) hb2 (by decide)⟩))
  refine z_iload_n C dX5_alloc_20 rfl 1 rfl ?_
  refine z_callS (rest := []) C (m_X5_classOf l G base _ b hb hb2) ml_X5_137 kw_X5_classOf rfl rfl (by simp [Value.category]) dX5_alloc_21 (by decide) (by decide) (by decide) (by decide) ?_
  rintro _ _ ⟨rfl, rfl⟩
  refine z_st (st' := [.int (nI (k_cls b))]) rfl ?_
  refine z_istore_n (lv' := [(2, .int (nI (k_cls b))), (0, .ref (base + 16)), (1, .int (nI b))]) C dX5_alloc_24 rfl (by decide) rfl ?_
  refine z_iload_n C dX5_alloc_25 rfl 0 rfl ?_
  refine z_bipush (v := 6) C dX5_alloc_26 (by decide) ?_
  refine z_icmp_ge (tgt := 37) C dX5_alloc_28 (by decide) (fun h28 => ?_) (fun h28 => ?_)
  · skip
    have hk6 : ¬ k_cls b < 6 := fun q => absurd h28 (nI_ge q (by decide))
    refine z_aload_n C dX5_alloc_37 rfl 1 rfl ?_
    refine z_iload_n C dX5_alloc_38 rfl 0 rfl ?_
    refine z_bipush (v := 6) C dX5_alloc_39 (by decide) ?_
    refine z_isub C dX5_alloc_41 ?_
    refine z_casti (y := nI (k_cls b - 6)) (pk_sub (b := 6) (by omega)) ?_
    refine z_callV (rest := []) C (m_X5_takeBlock l G base xs r tl hw.1.1 hw.1.2.1 hw.al (k_cls b - 6) (by omega)) ml_X5_100 kw_X5_takeBlock rfl rfl rfl rfl (by simp [Value.category]) dX5_alloc_42 (by decide) (by decide) (by decide) (by decide) ?_
    rintro _ _ ⟨rfl, rfl⟩
    refine z_st (st' := [.int (oI (r_tk r (k_cls b - 6)))]) rfl ?_
    rcases opt_cases (r_tk r (k_cls b - 6)) with htk | ⟨P, htk⟩
    · skip
      refine z_casti (y := -1) (by rw [htk]; rfl) ?_
      refine z_istore_n (lv' := [(3, .int ((-1 : Int32))), (2, .int (nI (k_cls b))), (0, .ref (base + 16)), (1, .int (nI b))]) C dX5_alloc_45 rfl (by decide) rfl ?_
      refine z_iload_n C dX5_alloc_46 rfl 0 rfl ?_
      refine z_if_ge (tgt := 54) C dX5_alloc_47 (by decide) (fun h47 => absurd h47 (by decide)) (fun h47 => ?_)
      refine z_iconst (v := -1) C dX5_alloc_50 (by decide) ?_
      refine z_goto (tgt := 58) C dX5_alloc_51 (by decide) ?_
      exact z_iret C hrt rfl dX5_alloc_58 (by decide) (by decide) (⟨by unfold r_alO; rw [if_neg hk6, htk]; rfl, by unfold r_alS; rw [if_neg hk6]⟩)
    · skip
      refine z_casti (y := nI P) (by rw [htk]; rfl) ?_
      have hP : P < 256 := r_tk_lt htk
      refine z_istore_n (lv' := [(3, .int (nI P)), (2, .int (nI (k_cls b))), (0, .ref (base + 16)), (1, .int (nI b))]) C dX5_alloc_45 rfl (by decide) rfl ?_
      refine z_iload_n C dX5_alloc_46 rfl 0 rfl ?_
      refine z_if_ge (tgt := 54) C dX5_alloc_47 (by decide) (fun h47 => ?_) (fun h47 => absurd h47 (fun q => q (nI_pos' (by omega))))
      refine z_bipush (v := 64) C dX5_alloc_54 (by decide) ?_
      refine z_iload_n C dX5_alloc_56 rfl 0 rfl ?_
      refine z_imul C dX5_alloc_57 ?_
      refine z_casti (y := nI (64 * P)) (pk_mul 64 P) ?_
      exact z_iret C hrt rfl dX5_alloc_58 (by decide) (by decide) (⟨by unfold r_alO; rw [if_neg hk6, htk]; rfl, by unfold r_alS; rw [if_neg hk6]⟩)
  · skip
    have hk6 : k_cls b < 6 := by
      rcases Nat.lt_or_ge (k_cls b) 6 with q9 | q9
      · exact q9
      · exact absurd (nI_le (a := 6) q9 (by omega)) h28
    have hq := hw.2.1 (k_cls b) (by omega)
    refine z_aload_n C dX5_alloc_31 rfl 1 rfl ?_
    refine z_iload_n C dX5_alloc_32 rfl 0 rfl ?_
    refine z_callV (rest := []) C (m_X5_take l G base xs r tl hw.1.1 hw.1.2.1 hw.al (k_cls b) (by omega) hq.1 hq.2.1 hq.2.2.1 hq.2.2.2.2 hst (r_isc_nI hw.2.2.1.1 hw.2.2.1.2.2 (by omega)) hw.1.2.2.2 (fun p hp hs => hw.2.2.2.2.2.1 p _ hp (by omega) hs) (fun h => by obtain ⟨P, h1, h2, h3, -⟩ := hw.2.2.2.2.2.2 _ (show k_cls b < nc by omega) h; exact ⟨P, h1, h2, h3⟩) hq.2.2.2.1) ml_X5_140 kw_X5_take rfl rfl rfl rfl (by simp [Value.category]) dX5_alloc_33 (by decide) (by decide) (by decide) (by decide) ?_
    rintro _ _ ⟨rfl, rfl⟩
    refine z_st (st' := [.int (oI (r_toO r (k_cls b)))]) rfl ?_
    exact z_iret C hrt rfl dX5_alloc_36 (by decide) (by decide) (⟨by unfold r_alO; rw [if_pos hk6], by unfold r_alS; rw [if_pos hk6]⟩)

set_option maxHeartbeats 4000000 in
set_option maxRecDepth 100000 in
theorem m_X5_alloc_out (l : Launch) (G : z_G) (base : Nat) (xs : Nat → va_E) (r : r_T) (tl : List va_E) (x : Int32) (hx : ¬ r_alB r x = true) : z_M l G base yX5_alloc cX5_alloc 4 (some .int) 7 0 0 [.ref (base + 16), .int (x)] (hpM G base xs r tl) (fun v hp' => v = some (.int (-1)) ∧ hp' = hpM G base xs r tl) := by
  refine z_M.of (lv0 := [(0, .ref (base + 16)), (1, .int (x))]) (by decide) (Nat.le_of_ble_eq_true rfl) rfl ?_
  intro p e s m below meth c hmn hrt C
  refine z_aload_n C dX5_alloc_0 rfl 0 rfl ?_
  refine z_get C fl_X5_58 dX5_alloc_1 rfl rfl ?_
  refine z_if_eq (tgt := 18) C dX5_alloc_4 (by decide) (fun h4 => ?_) (fun h4 => ?_)
  · skip
    refine z_iconst (v := -1) C dX5_alloc_18 (by decide) ?_
    exact z_iret C hrt rfl dX5_alloc_19 (by decide) (by decide) (⟨rfl, rfl⟩)
  · skip
    refine z_iload_n C dX5_alloc_7 rfl 1 rfl ?_
    refine z_iconst (v := 1) C dX5_alloc_8 (by decide) ?_
    refine z_sipush (v := 4096) C dX5_alloc_9 (by decide) ?_
    refine z_callS (rest := []) C (m_X5_in l G base _ (x) ((1 : Int32)) ((4096 : Int32))) ml_X5_62 kw_X5_in rfl rfl (by simp [Value.category]) dX5_alloc_12 (by decide) (by decide) (by decide) (by decide) ?_
    rintro _ _ ⟨rfl, rfl⟩
    refine z_st (st' := [.int ((bI (decide ((1 : Int32) ≤ x ∧ x ≤ (4096 : Int32)))))]) rfl ?_
    refine z_if_ne (tgt := 20) C dX5_alloc_15 (by decide) (fun h15 => absurd h15 (fun q => hx (decide_eq_true ⟨h4, bI_ne q⟩))) (fun h15 => ?_)
    refine z_iconst (v := -1) C dX5_alloc_18 (by decide) ?_
    exact z_iret C hrt rfl dX5_alloc_19 (by decide) (by decide) (⟨rfl, rfl⟩)

set_option maxHeartbeats 4000000 in
set_option maxRecDepth 100000 in
theorem m_X5_ofCache (l : Launch) (G : z_G) (base : Nat) (xs : Nat → va_E) (r : r_T) (tl : List va_E) (nc : Nat) (hw : r_wf r nc) (x y : Int32) : z_M l G base yX5_ofCache cX5_ofCache 3 (some .int) 4 0 0 [.ref (base + 16), .int (x), .int (y)] (hpM G base xs r tl) (fun v hp' => v = some (.int (r_ocA r (x) (y))) ∧ hp' = hpM G base xs r tl) := by
  refine z_M.of (lv0 := [(0, .ref (base + 16)), (1, .int (x)), (2, .int (y))]) (by decide) (Nat.le_of_ble_eq_true rfl) rfl ?_
  intro p e s m below meth c hmn hrt C
  have hnc := hw.2.2.1.2
  refine z_aload_n C dX5_ofCache_0 rfl 0 rfl ?_
  refine z_iload_n C dX5_ofCache_1 rfl 1 rfl ?_
  refine z_callV (rest := []) C (m_X5_isCache l G base xs r tl (x)) ml_X5_116 kw_X5_isCache rfl rfl rfl rfl (by simp [Value.category]) dX5_ofCache_2 (by decide) (by decide) (by decide) (by decide) ?_
  rintro _ _ ⟨rfl, rfl⟩
  refine z_st (st' := [.int ((bI (r_isc r (x))))]) rfl ?_
  refine z_if_ne (tgt := 10) C dX5_ofCache_5 (by decide) (fun h5 => ?_) (fun h5 => ?_)
  · skip
    have hic := bI_nt h5
    obtain ⟨c0, hc0, rfl⟩ := r_isc_true hw.2.2.1.1 hw.2.2.1.2.2 hic
    have hcc : (nI c0).toNatClampNeg = c0 := nI_clamp (by omega)
    have hq := hw.2.1 c0 hc0
    refine z_iload_n C dX5_ofCache_10 rfl 2 rfl ?_
    rcases tab8 y with hto | ⟨j, hj, rfl⟩
    · skip
      refine z_tabOut (tgt := 109) C dX5_ofCache_11 hto (by decide) ?_
      refine z_iconst (v := -1) C dX5_ofCache_109 (by decide) ?_
      exact z_iret C hrt rfl dX5_ofCache_110 (by decide) (by decide) (⟨by unfold r_ocA; rw [if_pos hic, hcc]; first | (rw [if_pos hto]) | rfl, rfl⟩)
    · skip
      rcases (show j = 0 ∨ j = 1 ∨ j = 2 ∨ j = 3 ∨ j = 4 ∨ j = 5 ∨ j = 6 ∨ j = 7 by omega) with rfl | rfl | rfl | rfl | rfl | rfl | rfl | rfl
      · skip
        refine z_tabIn (off := 45) (tgt := 56) C dX5_ofCache_11 (by decide) (by decide) (by decide) (by decide) ?_
        refine z_aload_n C dX5_ofCache_56 rfl 0 rfl ?_
        refine z_get C fl_X5_35 dX5_ofCache_57 rfl rfl ?_
        refine z_iload_n C dX5_ofCache_60 rfl 1 rfl ?_
        refine z_ialdK C dX5_ofCache_61 rfl (by omega) (by decide) ?_
        exact z_iret C hrt rfl dX5_ofCache_62 (by decide) (by decide) (⟨by unfold r_ocA; rw [if_pos hic, hcc]; first | (rw [if_pos hto]) | rfl, rfl⟩)
      · skip
        refine z_tabIn (off := 52) (tgt := 63) C dX5_ofCache_11 (by decide) (by decide) (by decide) (by decide) ?_
        refine z_aload_n C dX5_ofCache_63 rfl 0 rfl ?_
        refine z_get C fl_X5_38 dX5_ofCache_64 rfl rfl ?_
        refine z_iload_n C dX5_ofCache_67 rfl 1 rfl ?_
        refine z_ialdK C dX5_ofCache_68 rfl (by omega) (by decide) ?_
        exact z_iret C hrt rfl dX5_ofCache_69 (by decide) (by decide) (⟨by unfold r_ocA; rw [if_pos hic, hcc]; first | (rw [if_pos hto]) | rfl, rfl⟩)
      · skip
        refine z_tabIn (off := 59) (tgt := 70) C dX5_ofCache_11 (by decide) (by decide) (by decide) (by decide) ?_
        refine z_aload_n C dX5_ofCache_70 rfl 0 rfl ?_
        refine z_get C fl_X5_41 dX5_ofCache_71 rfl rfl ?_
        refine z_iload_n C dX5_ofCache_74 rfl 1 rfl ?_
        refine z_ialdK C dX5_ofCache_75 rfl (by omega) (by decide) ?_
        exact z_iret C hrt rfl dX5_ofCache_76 (by decide) (by decide) (⟨by unfold r_ocA; rw [if_pos hic, hcc]; first | (rw [if_pos hto]) | rfl, rfl⟩)
      · skip
        refine z_tabIn (off := 66) (tgt := 77) C dX5_ofCache_11 (by decide) (by decide) (by decide) (by decide) ?_
        refine z_aload_n C dX5_ofCache_77 rfl 0 rfl ?_
        refine z_get C fl_X5_44 dX5_ofCache_78 rfl rfl ?_
        refine z_iload_n C dX5_ofCache_81 rfl 1 rfl ?_
        refine z_ialdK C dX5_ofCache_82 rfl (by omega) (by decide) ?_
        exact z_iret C hrt rfl dX5_ofCache_83 (by decide) (by decide) (⟨by unfold r_ocA; rw [if_pos hic, hcc]; first | (rw [if_pos hto]) | rfl, rfl⟩)
      · skip
        refine z_tabIn (off := 73) (tgt := 84) C dX5_ofCache_11 (by decide) (by decide) (by decide) (by decide) ?_
        refine z_aload_n C dX5_ofCache_84 rfl 0 rfl ?_
        refine z_iload_n C dX5_ofCache_85 rfl 1 rfl ?_
        refine z_callV (rest := []) C (m_X5_objectsOf l G base xs r tl c0 (by omega) hq.1 hq.2.1 hq.2.2.1) ml_X5_113 kw_X5_objectsOf rfl rfl rfl rfl (by simp [Value.category]) dX5_ofCache_86 (by decide) (by decide) (by decide) (by decide) ?_
        rintro _ _ ⟨rfl, rfl⟩
        refine z_st (st' := [.int (nI (r_ob r c0))]) rfl ?_
        exact z_iret C hrt rfl dX5_ofCache_89 (by decide) (by decide) (⟨by unfold r_ocA; rw [if_pos hic, hcc]; first | (rw [if_pos hto]) | rfl, rfl⟩)
      · skip
        refine z_tabIn (off := 79) (tgt := 90) C dX5_ofCache_11 (by decide) (by decide) (by decide) (by decide) ?_
        refine z_aload_n C dX5_ofCache_90 rfl 0 rfl ?_
        refine z_iload_n C dX5_ofCache_91 rfl 1 rfl ?_
        refine z_callV (rest := []) C (m_X5_slabsOf l G base xs r tl hw.1.1 c0) ml_X5_161 kw_X5_slabsOf rfl rfl rfl rfl (by simp [Value.category]) dX5_ofCache_92 (by decide) (by decide) (by decide) (by decide) ?_
        rintro _ _ ⟨rfl, rfl⟩
        refine z_st (st' := [.int (nI (r_sum (r_gS r c0) 256))]) rfl ?_
        exact z_iret C hrt rfl dX5_ofCache_95 (by decide) (by decide) (⟨by unfold r_ocA; rw [if_pos hic, hcc]; first | (rw [if_pos hto]) | rfl, rfl⟩)
      · skip
        refine z_tabIn (off := 85) (tgt := 96) C dX5_ofCache_11 (by decide) (by decide) (by decide) (by decide) ?_
        refine z_aload_n C dX5_ofCache_96 rfl 0 rfl ?_
        refine z_iload_n C dX5_ofCache_97 rfl 1 rfl ?_
        refine z_callV (rest := []) C (m_X5_liveIn l G base xs r tl hw.1.1 c0 (by omega) hq.1 hq.2.1 hq.2.2.1 (fun p hp hs => hw.2.2.2.2.2.1 p c0 hp hc0 hs)) ml_X5_164 kw_X5_liveIn rfl rfl rfl rfl (by simp [Value.category]) dX5_ofCache_98 (by decide) (by decide) (by decide) (by decide) ?_
        rintro _ _ ⟨rfl, rfl⟩
        refine z_st (st' := [.int (nI (r_sum (r_gL r c0) 256))]) rfl ?_
        exact z_iret C hrt rfl dX5_ofCache_101 (by decide) (by decide) (⟨by unfold r_ocA; rw [if_pos hic, hcc]; first | (rw [if_pos hto]) | rfl, rfl⟩)
      · skip
        refine z_tabIn (off := 91) (tgt := 102) C dX5_ofCache_11 (by decide) (by decide) (by decide) (by decide) ?_
        refine z_aload_n C dX5_ofCache_102 rfl 0 rfl ?_
        refine z_get C fl_X5_47 dX5_ofCache_103 rfl rfl ?_
        refine z_iload_n C dX5_ofCache_106 rfl 1 rfl ?_
        refine z_ialdN C dX5_ofCache_107 rfl (by omega) (by decide) ?_
        exact z_iret C hrt rfl dX5_ofCache_108 (by decide) (by decide) (⟨by unfold r_ocA; rw [if_pos hic, hcc]; first | (rw [if_pos hto]) | rfl, rfl⟩)
  · skip
    refine z_iconst (v := -1) C dX5_ofCache_8 (by decide) ?_
    exact z_iret C hrt rfl dX5_ofCache_9 (by decide) (by decide) (⟨by unfold r_ocA; rw [if_neg (by rw [bI_ff h5]; exact Bool.false_ne_true)], rfl⟩)

set_option maxHeartbeats 4000000 in
set_option maxRecDepth 100000 in
theorem m_X5_count (l : Launch) (G : z_G) (base : Nat) (xs : Nat → va_E) (r : r_T) (tl : List va_E) (nc : Nat) (hw : r_wf r nc) (x : Int32) : z_M l G base yX5_count cX5_count 4 (some .int) 4 0 0 [.ref (base + 16), .int (x)] (hpM G base xs r tl) (fun v hp' => v = some (.int (r_cnA r nc (x))) ∧ hp' = hpM G base xs r tl) := by
  refine z_M.of (lv0 := [(0, .ref (base + 16)), (1, .int (x))]) (by decide) (Nat.le_of_ble_eq_true rfl) rfl ?_
  intro p e s m below meth c hmn hrt C
  have hnc := hw.2.2.1.2
  refine z_iconst (v := 0) C dX5_count_0 (by decide) ?_
  refine z_casti (y := nI 0) (rfl) ?_
  refine z_istore_n (lv' := [(2, .int (nI 0)), (0, .ref (base + 16)), (1, .int (x))]) C dX5_count_1 rfl (by decide) rfl ?_
  refine z_iconst (v := 0) C dX5_count_2 (by decide) ?_
  refine z_casti (y := nI 0) (rfl) ?_
  refine z_istore_n (lv' := [(3, .int (nI 0)), (2, .int (nI 0)), (0, .ref (base + 16)), (1, .int (x))]) C dX5_count_3 rfl (by decide) rfl ?_
  refine z_lv (lv' := [(3, .int (nI 0)), (2, .int (nI 0)), (0, .ref (base + 16)), (1, .int (x))]) [0, 1, 2, 3] rfl ?_
  have loop : ∀ (n : Nat) (z : Nat), (z ≤ nc) → (nc + 1 ≤ n + z) → z_R p l e (z_rm 4 0 0) s m ([Value.ref (base + 16), .int (x)] : List Value).toArray below meth c (MQ below (z_Qc G base (fun v hp' => v = some (.int (r_cnA r nc (x))) ∧ hp' = hpM G base xs r tl)) ([Value.ref (base + 16), .int (x)] : List Value).toArray s 0 0 (fun z => base ≤ z)) G base 4 0 0 4 [(3, .int (nI z)), (2, .int (nI (r_sum (fun c => r_sum (r_gL r c) 256) z))), (0, .ref (base + 16)), (1, .int (x))] [] (hpM G base xs r tl) := by
    intro n
    induction n with
    | zero => intro z hz hn0; exact absurd hn0 (by omega)
    | succ n ih =>
      intro z hz hn0
      refine z_iload_n C dX5_count_4 rfl 0 rfl ?_
      refine z_aload_n C dX5_count_5 rfl 2 rfl ?_
      refine z_get C fl_X5_110 dX5_count_6 rfl rfl ?_
      refine z_icmp_ge (tgt := 26) C dX5_count_9 (by decide) (fun h9 => ?_) (fun h9 => ?_)
      · skip
        have ze : z = nc := by
          rw [hw.2.2.1.1] at h9
          rcases Nat.lt_or_ge z nc with q9 | q9
          · exact absurd h9 (nI_ge q9 (by omega))
          · omega
        refine z_iload_n C dX5_count_26 rfl 3 rfl ?_
        rcases tab9 x with hto | ⟨j, hj, rfl⟩
        · skip
          refine z_tabOut (tgt := 118) C dX5_count_27 hto (by decide) ?_
          refine z_iconst (v := -1) C dX5_count_118 (by decide) ?_
          exact z_iret C hrt rfl dX5_count_119 (by decide) (by decide) (⟨by unfold r_cnA; first | rw [if_pos hto] | rfl | (rw [ze]; rfl), rfl⟩)
        · skip
          rcases (show j = 0 ∨ j = 1 ∨ j = 2 ∨ j = 3 ∨ j = 4 ∨ j = 5 ∨ j = 6 ∨ j = 7 ∨ j = 8 by omega) with rfl | rfl | rfl | rfl | rfl | rfl | rfl | rfl | rfl
          · skip
            refine z_tabIn (off := 49) (tgt := 76) C dX5_count_27 (by decide) (by decide) (by decide) (by decide) ?_
            refine z_aload_n C dX5_count_76 rfl 2 rfl ?_
            refine z_callV (rest := []) C (m_X5_usablePages l G base xs r tl) ml_X5_74 kw_X5_usablePages rfl rfl rfl rfl (by simp [Value.category]) dX5_count_77 (by decide) (by decide) (by decide) (by decide) ?_
            rintro _ _ ⟨rfl, rfl⟩
            refine z_st (st' := [.int (nI (r_sum (r_gU r) 256))]) rfl ?_
            exact z_iret C hrt rfl dX5_count_80 (by decide) (by decide) (⟨by unfold r_cnA; first | rw [if_pos hto] | rfl | (rw [ze]; rfl), rfl⟩)
          · skip
            refine z_tabIn (off := 54) (tgt := 81) C dX5_count_27 (by decide) (by decide) (by decide) (by decide) ?_
            refine z_aload_n C dX5_count_81 rfl 2 rfl ?_
            refine z_callV (rest := []) C (m_X5_freePageCount l G base xs r tl hw.1.1 hw.1.2.1) ml_X5_91 kw_X5_freePageCount rfl rfl rfl rfl (by simp [Value.category]) dX5_count_82 (by decide) (by decide) (by decide) (by decide) ?_
            rintro _ _ ⟨rfl, rfl⟩
            refine z_st (st' := [.int (nI (r_sum (r_gF r) 256))]) rfl ?_
            exact z_iret C hrt rfl dX5_count_85 (by decide) (by decide) (⟨by unfold r_cnA; first | rw [if_pos hto] | rfl | (rw [ze]; rfl), rfl⟩)
          · skip
            refine z_tabIn (off := 59) (tgt := 86) C dX5_count_27 (by decide) (by decide) (by decide) (by decide) ?_
            refine z_aload_n C dX5_count_86 rfl 2 rfl ?_
            refine z_get C fl_X5_85 dX5_count_87 rfl rfl ?_
            exact z_iret C hrt rfl dX5_count_90 (by decide) (by decide) (⟨by unfold r_cnA; first | rw [if_pos hto] | rfl | (rw [ze]; rfl), rfl⟩)
          · skip
            refine z_tabIn (off := 64) (tgt := 91) C dX5_count_27 (by decide) (by decide) (by decide) (by decide) ?_
            refine z_aload_n C dX5_count_91 rfl 2 rfl ?_
            refine z_get C fl_X5_88 dX5_count_92 rfl rfl ?_
            exact z_iret C hrt rfl dX5_count_95 (by decide) (by decide) (⟨by unfold r_cnA; first | rw [if_pos hto] | rfl | (rw [ze]; rfl), rfl⟩)
          · skip
            refine z_tabIn (off := 69) (tgt := 96) C dX5_count_27 (by decide) (by decide) (by decide) (by decide) ?_
            refine z_aload_n C dX5_count_96 rfl 2 rfl ?_
            refine z_get C fl_X5_97 dX5_count_97 rfl rfl ?_
            exact z_iret C hrt rfl dX5_count_100 (by decide) (by decide) (⟨by unfold r_cnA; first | rw [if_pos hto] | rfl | (rw [ze]; rfl), rfl⟩)
          · skip
            refine z_tabIn (off := 74) (tgt := 101) C dX5_count_27 (by decide) (by decide) (by decide) (by decide) ?_
            refine z_iload_n C dX5_count_101 rfl 1 rfl ?_
            exact z_iret C hrt rfl dX5_count_102 (by decide) (by decide) (⟨by unfold r_cnA; first | rw [if_pos hto] | rfl | (rw [ze]; rfl), rfl⟩)
          · skip
            refine z_tabIn (off := 76) (tgt := 103) C dX5_count_27 (by decide) (by decide) (by decide) (by decide) ?_
            refine z_aload_n C dX5_count_103 rfl 2 rfl ?_
            refine z_get C fl_X5_110 dX5_count_104 rfl rfl ?_
            exact z_iret C hrt rfl dX5_count_107 (by decide) (by decide) (⟨by unfold r_cnA; first | rw [if_pos hto] | rfl | (rw [ze]; rfl), rfl⟩)
          · skip
            refine z_tabIn (off := 81) (tgt := 108) C dX5_count_27 (by decide) (by decide) (by decide) (by decide) ?_
            refine z_aload_n C dX5_count_108 rfl 2 rfl ?_
            refine z_get C fl_X5_94 dX5_count_109 rfl rfl ?_
            exact z_iret C hrt rfl dX5_count_112 (by decide) (by decide) (⟨by unfold r_cnA; first | rw [if_pos hto] | rfl | (rw [ze]; rfl), rfl⟩)
          · skip
            refine z_tabIn (off := 86) (tgt := 113) C dX5_count_27 (by decide) (by decide) (by decide) (by decide) ?_
            refine z_aload_n C dX5_count_113 rfl 2 rfl ?_
            refine z_get C fl_X5_50 dX5_count_114 rfl rfl ?_
            exact z_iret C hrt rfl dX5_count_117 (by decide) (by decide) (⟨by unfold r_cnA; first | rw [if_pos hto] | rfl | (rw [ze]; rfl), rfl⟩)
      · skip
        have zl : z < nc := by
          rw [hw.2.2.1.1] at h9
          rcases Nat.lt_or_ge z nc with q9 | q9
          · exact q9
          · exact absurd (nI_le q9 (by omega)) h9
        have hq := hw.2.1 z zl
        refine z_iload_n C dX5_count_12 rfl 1 rfl ?_
        refine z_aload_n C dX5_count_13 rfl 2 rfl ?_
        refine z_iload_n C dX5_count_14 rfl 0 rfl ?_
        refine z_callV (rest := [.int (nI (r_sum (fun c => r_sum (r_gL r c) 256) z))]) C (m_X5_liveIn l G base xs r tl hw.1.1 z (by omega) hq.1 hq.2.1 hq.2.2.1 (fun p hp hs => hw.2.2.2.2.2.1 p z hp zl hs)) ml_X5_164 kw_X5_liveIn rfl rfl rfl rfl (by simp [Value.category]) dX5_count_15 (by decide) (by decide) (by decide) (by decide) ?_
        rintro _ _ ⟨rfl, rfl⟩
        refine z_st (st' := [.int (nI (r_sum (r_gL r z) 256)), .int (nI (r_sum (fun c => r_sum (r_gL r c) 256) z))]) rfl ?_
        refine z_iadd C dX5_count_18 ?_
        refine z_casti (y := nI (r_sum (fun c => r_sum (r_gL r c) 256) (z + 1))) (nI_add _ _) ?_
        refine z_istore_n (lv' := [(2, .int (nI (r_sum (fun c => r_sum (r_gL r c) 256) (z + 1)))), (3, .int (nI z)), (0, .ref (base + 16)), (1, .int (x))]) C dX5_count_19 rfl (by decide) rfl ?_
        refine z_iinc (k := 1) (v := nI (z + 1)) (lv' := [(3, .int (nI (z + 1))), (2, .int (nI (r_sum (fun c => r_sum (r_gL r c) 256) (z + 1)))), (0, .ref (base + 16)), (1, .int (x))]) C dX5_count_20 rfl (nI_1 z) (by decide) rfl ?_
        refine z_goto (tgt := 4) C dX5_count_23 (by decide) ?_
        refine z_lv (lv' := [(3, .int (nI (z + 1))), (2, .int (nI (r_sum (fun c => r_sum (r_gL r c) 256) (z + 1)))), (0, .ref (base + 16)), (1, .int (x))]) [0, 1, 2, 3] rfl ?_
        exact ih (z + 1) (by omega) (by omega)
  exact loop (nc + 1) 0 (by omega) (by omega)

set_option maxHeartbeats 4000000 in
set_option maxRecDepth 100000 in
theorem m_X5_resize (l : Launch) (G : z_G) (base : Nat) (xs : Nat → va_E) (r : r_T) (tl : List va_E) (nc : Nat) (hw : r_wf r nc) (a k b : Nat) (ha : a < 16384) (hk : k ≤ 12) (hca : r_ca r (nI a) = nI k) (hb : 1 ≤ b) (hb2 : b ≤ 4096) (hst : ¬ r.1 0 = 0) (hne : ¬ k = k_cls b) (hw2 : r_wf (r_alS r b) nc) (hca2 : r_ca (r_alS r b) (nI a) = nI k) (hto : ∀ t, r_alO r b = some t → t + b ≤ 16384) (hax : a + k_bytes k ≤ 16384) : z_M l G base yX5_resize cX5_resize 8 (some .int) 8 0 0 [.ref (base + 16), .int (nI a), .int (nI b)] (hpM G base xs r tl) (fun v hp' => v = some (.int (oI (r_alO r b))) ∧ hp' = hpM G base xs (r_rsS r (nI a) (nI b)) tl) := by
  refine z_M.of (lv0 := [(0, .ref (base + 16)), (1, .int (nI a)), (2, .int (nI b))]) (by decide) (Nat.le_of_ble_eq_true rfl) rfl ?_
  intro p e s m below meth c hmn hrt C
  have hk12 := k_cls_le (b := b)
  have hkb := k_bytes_le hk
  have hB : r_rsB r (nI a) (nI b) = true := by unfold r_rsB; rw [decide_eq_true ⟨by rw [hca]; exact nI_pos (by omega), ⟨nI_le (a := 1) hb (by omega), nI_le (b := 4096) hb2 (by decide)⟩, by rw [hca, nI_clamp (by omega)]; exact fun q => hne ((nI_eq (by omega) (by have := k_cls_le (b := b); omega)).mp q)⟩]
  have hcl1 : (nI a).toNatClampNeg = a := nI_clamp (by omega)
  have hcl2 : (nI b).toNatClampNeg = b := nI_clamp (by omega)
  have hcl3 : (nI k).toNatClampNeg = k := nI_clamp (by omega)
  refine z_aload_n C dX5_resize_0 rfl 0 rfl ?_
  refine z_iload_n C dX5_resize_1 rfl 1 rfl ?_
  refine z_callV (rest := []) C (m_X5_classAt l G base xs r tl nc hw (nI a)) ml_X5_143 kw_X5_classAt rfl rfl rfl rfl (by simp [Value.category]) dX5_resize_2 (by decide) (by decide) (by decide) (by decide) ?_
  rintro _ _ ⟨rfl, rfl⟩
  refine z_st (st' := [.int (r_ca r (nI a))]) rfl ?_
  refine z_casti (y := nI k) (hca) ?_
  refine z_istore_n (lv' := [(3, .int (nI k)), (0, .ref (base + 16)), (1, .int (nI a)), (2, .int (nI b))]) C dX5_resize_5 rfl (by decide) rfl ?_
  refine z_iload_n C dX5_resize_6 rfl 0 rfl ?_
  refine z_if_ge (tgt := 12) C dX5_resize_7 (by decide) (fun h7 => ?_) (fun h7 => absurd h7 (fun q => q (nI_pos' (by omega))))
  refine z_iload_n C dX5_resize_12 rfl 3 rfl ?_
  refine z_iconst (v := 1) C dX5_resize_13 (by decide) ?_
  refine z_sipush (v := 4096) C dX5_resize_14 (by decide) ?_
  refine z_callS (rest := []) C (m_X5_in l G base _ (nI b) ((1 : Int32)) ((4096 : Int32))) ml_X5_62 kw_X5_in rfl rfl (by simp [Value.category]) dX5_resize_17 (by decide) (by decide) (by decide) (by decide) ?_
  rintro _ _ ⟨rfl, rfl⟩
  refine z_st (st' := [.int ((bI (decide (1 ≤ nI b ∧ nI b ≤ 4096))))]) rfl ?_
  refine z_if_ne (tgt := 25) C dX5_resize_20 (by decide) (fun h20 => ?_) (fun h20 => absurd h20 (fun q => bI_eq q ⟨nI_le (a := 1) hb (by omega), nI_le (b := 4096) hb2 (by decide)⟩))
  refine z_iload_n C dX5_resize_25 rfl 3 rfl ?_
  refine z_callS (rest := []) C (m_X5_classOf l G base _ b hb hb2) ml_X5_137 kw_X5_classOf rfl rfl (by simp [Value.category]) dX5_resize_26 (by decide) (by decide) (by decide) (by decide) ?_
  rintro _ _ ⟨rfl, rfl⟩
  refine z_st (st' := [.int (nI (k_cls b))]) rfl ?_
  refine z_istore (lv' := [(4, .int (nI (k_cls b))), (3, .int (nI k)), (0, .ref (base + 16)), (1, .int (nI a)), (2, .int (nI b))]) C dX5_resize_29 (by decide) rfl ?_
  refine z_iload_n C dX5_resize_31 rfl 1 rfl ?_
  refine z_iload C dX5_resize_32 0 rfl ?_
  refine z_icmp_ne (tgt := 39) C dX5_resize_34 (by decide) (fun h34 => ?_) (fun h34 => absurd h34 (fun q => hne ((nI_eq (by omega) (by omega)).mp q)))
  refine z_aload_n C dX5_resize_39 rfl 2 rfl ?_
  refine z_iload_n C dX5_resize_40 rfl 4 rfl ?_
  refine z_callV (rest := []) C (m_X5_alloc l G base xs r tl nc hw b hb hb2 hst) ml_X5_152 kw_X5_alloc rfl rfl rfl rfl (by simp [Value.category]) dX5_resize_41 (by decide) (by decide) (by decide) (by decide) ?_
  rintro _ _ ⟨rfl, rfl⟩
  refine z_st (st' := [.int (oI (r_alO r b))]) rfl ?_
  rcases opt_cases (r_alO r b) with hal | ⟨t, hal⟩
  · skip
    refine z_casti (y := -1) (by rw [hal]; rfl) ?_
    refine z_istore (lv' := [(5, .int ((-1 : Int32))), (4, .int (nI (k_cls b))), (3, .int (nI k)), (0, .ref (base + 16)), (1, .int (nI a)), (2, .int (nI b))]) C dX5_resize_44 (by decide) rfl ?_
    refine z_iload C dX5_resize_46 0 rfl ?_
    refine z_if_ge (tgt := 53) C dX5_resize_48 (by decide) (fun h48 => absurd h48 (by decide)) (fun h48 => ?_)
    refine z_iconst (v := -1) C dX5_resize_51 (by decide) ?_
    exact z_iret C hrt rfl dX5_resize_52 (by decide) (by decide) (⟨by rw [hal]; rfl, by unfold r_rsS; rw [if_pos hB, hcl1, hcl2, hal]⟩)
  · skip
    refine z_casti (y := nI t) (by rw [hal]; rfl) ?_
    have htl := hto t hal
    refine z_istore (lv' := [(5, .int (nI t)), (4, .int (nI (k_cls b))), (3, .int (nI k)), (0, .ref (base + 16)), (1, .int (nI a)), (2, .int (nI b))]) C dX5_resize_44 (by decide) rfl ?_
    refine z_iload C dX5_resize_46 0 rfl ?_
    refine z_if_ge (tgt := 53) C dX5_resize_48 (by decide) (fun h48 => ?_) (fun h48 => absurd h48 (fun q => q (nI_pos' (by omega))))
    refine z_iload_n C dX5_resize_53 rfl 2 rfl ?_
    refine z_callS (rest := []) C (m_X5_bytesOf l G base _ k hk) ml_X5_149 kw_X5_bytesOf rfl rfl (by simp [Value.category]) dX5_resize_54 (by decide) (by decide) (by decide) (by decide) ?_
    rintro _ _ ⟨rfl, rfl⟩
    refine z_st (st' := [.int (nI (k_bytes k))]) rfl ?_
    refine z_iload_n C dX5_resize_57 rfl 5 rfl ?_
    refine z_icmp_ge (tgt := 68) C dX5_resize_58 (by decide) (fun h58 => ?_) (fun h58 => ?_)
    · skip
      refine z_iload_n C dX5_resize_68 rfl 5 rfl ?_
      refine z_casti (y := nI (min (k_bytes k) b)) (by first | rw [Nat.min_eq_right ((nI_leI (by omega) (by omega)).mp h58)] | rw [Nat.min_eq_left (Nat.le_of_lt ((nI_ltI (by omega) (by omega)).mp (Int32.not_le.mp h58)))]) ?_
      refine z_istore (lv' := [(6, .int (nI (min (k_bytes k) b))), (5, .int (nI t)), (4, .int (nI (k_cls b))), (3, .int (nI k)), (0, .ref (base + 16)), (1, .int (nI a)), (2, .int (nI b))]) C dX5_resize_69 (by decide) rfl ?_
      refine z_iconst (v := 0) C dX5_resize_71 (by decide) ?_
      refine z_casti (y := nI 0) (rfl) ?_
      refine z_istore (lv' := [(7, .int (nI 0)), (6, .int (nI (min (k_bytes k) b))), (5, .int (nI t)), (4, .int (nI (k_cls b))), (3, .int (nI k)), (0, .ref (base + 16)), (1, .int (nI a)), (2, .int (nI b))]) C dX5_resize_72 (by decide) rfl ?_
      refine z_lv (lv' := [(7, .int (nI 0)), (0, .ref (base + 16)), (1, .int (nI a)), (3, .int (nI k)), (5, .int (nI t)), (6, .int (nI (min (k_bytes k) b)))]) [0, 5, 6, 4, 2, 1] rfl ?_
      have loop : ∀ (n : Nat) (j : Nat) (mm : Nat → Nat), (j ≤ min (k_bytes k) b) → (min (k_bytes k) b + 1 ≤ n + j) → (r_mcp mm a t (min (k_bytes k) b - j) j = r_mcp ((r_alS r b).2.1 0) a t (min (k_bytes k) b) 0) → z_R p l e (z_rm 8 0 0) s m ([Value.ref (base + 16), .int (nI a), .int (nI b)] : List Value).toArray below meth c (MQ below (z_Qc G base (fun v hp' => v = some (.int (oI (r_alO r b))) ∧ hp' = hpM G base xs (r_rsS r (nI a) (nI b)) tl)) ([Value.ref (base + 16), .int (nI a), .int (nI b)] : List Value).toArray s 0 0 (fun z => base ≤ z)) G base 8 0 0 74 [(7, .int (nI j)), (0, .ref (base + 16)), (1, .int (nI a)), (3, .int (nI k)), (5, .int (nI t)), (6, .int (nI (min (k_bytes k) b)))] [] (hpM G base xs (r_setm (r_alS r b) mm) tl) := by
        intro n
        induction n with
        | zero => intro j mm hj hn0 hv; exact absurd hn0 (by omega)
        | succ n ih =>
          intro j mm hj hn0 hv
          refine z_iload C dX5_resize_74 0 rfl ?_
          refine z_iload C dX5_resize_76 5 rfl ?_
          refine z_icmp_ge (tgt := 106) C dX5_resize_78 (by decide) (fun h78 => ?_) (fun h78 => ?_)
          · skip
            have hje : j = min (k_bytes k) b := by
              rcases Nat.lt_or_ge j (min (k_bytes k) b) with q9 | q9
              · exact absurd h78 (nI_ge q9 (by omega))
              · omega
            have hmm : mm = (r_mcp ((r_alS r b).2.1 0) a t (min (k_bytes k) b) 0) := by rw [← hv, hje, Nat.sub_self]; rfl
            rcases r_ca_cases hw2 (nI a) with h9 | h9 | ⟨a2, P, c0, ha3, hae, hsa, hc6, hc0, hcP, hf0, h9, hP, hPf, hPa, hfl⟩ | ⟨a2, ha3, hae, h64, hf0, h9, hPf⟩
            · skip
              exact absurd h9 (by rw [hca2]; intro q; exact absurd (show nI k < 0 by rw [q]; decide) (nI_pos (by omega)))
            · skip
              exact absurd h9 (by rw [hca2]; intro q; exact absurd (show nI k < 0 by rw [q]; decide) (nI_pos (by omega)))
            · skip
              have hkc : k = c0 := (nI_eq (by omega) (by omega)).mp (by rw [← hca2]; exact h9)
              have ha2 : a = a2 := (nI_eq (by omega) (by omega)).mp hae
              subst hkc; subst ha2
              refine z_aload_n C dX5_resize_106 rfl 1 rfl ?_
              refine z_iload_n C dX5_resize_107 rfl 2 rfl ?_
              refine z_iload_n C dX5_resize_108 rfl 3 rfl ?_
              refine z_callV (rest := []) C (m_X5_release l G base xs (r_setm (r_alS r b) mm) tl nc hw2 a P k ha hsa hc6 hc0 hcP hP hPf hPa hfl) ml_X5_146 kw_X5_release rfl rfl rfl rfl (by simp [Value.category]) dX5_resize_109 (by decide) (by decide) (by decide) (by decide) ?_
              rintro _ _ ⟨rfl, rfl⟩
              refine z_st (st' := [.int (nI (r_ob (r_alS r b) k - ((r_alS r b).2.1 4 P + 1)))]) rfl ?_
              have hob64 := (hw2.2.1 k hc0).2.2.2.2
              refine z_istore (lv' := [(7, .int (nI (r_ob (r_alS r b) k - ((r_alS r b).2.1 4 P + 1)))), (0, .ref (base + 16)), (1, .int (nI a)), (3, .int (nI k)), (5, .int (nI t)), (6, .int (nI (min (k_bytes k) b)))]) C dX5_resize_112 (by decide) rfl ?_
              refine z_iload C dX5_resize_114 0 rfl ?_
              refine z_if_ge (tgt := 123) C dX5_resize_116 (by decide) (fun h116 => ?_) (fun h116 => absurd h116 (fun q => q (nI_pos' (by omega))))
              refine z_iload C dX5_resize_123 4 rfl ?_
              exact z_iret C hrt rfl dX5_resize_125 (by decide) (by decide) (⟨by rw [hal]; rfl, by unfold r_rsS; rw [if_pos hB, hcl1, hcl2, hal, hca, hcl3, hmm]⟩)
            · skip
              have ha2 : a = a2 := (nI_eq (by omega) (by omega)).mp hae
              subst ha2
              have hk6 := hw2.1.2.1 (a / 64)
              have hkc : k = 6 + (r_alS r b).2.1 2 (a / 64) := (nI_eq (by omega) (by omega)).mp (by rw [← hca2]; exact h9)
              refine z_aload_n C dX5_resize_106 rfl 1 rfl ?_
              refine z_iload_n C dX5_resize_107 rfl 2 rfl ?_
              refine z_iload_n C dX5_resize_108 rfl 3 rfl ?_
              refine z_callV (rest := []) C (m_X5_release_2 l G base xs (r_setm (r_alS r b) mm) tl nc hw2 a k ha (by omega) hk hPf) ml_X5_146 kw_X5_release rfl rfl rfl rfl (by simp [Value.category]) dX5_resize_109 (by decide) (by decide) (by decide) (by decide) ?_
              rintro _ _ ⟨rfl, rfl⟩
              refine z_st (st' := [.int (nI (2 ^ (r_alS r b).2.1 2 (a / 64)))]) rfl ?_
              have hp64 := two_le ((r_alS r b).2.1 2 (a / 64)) (by omega)
              refine z_istore (lv' := [(7, .int (nI (2 ^ (r_alS r b).2.1 2 (a / 64)))), (0, .ref (base + 16)), (1, .int (nI a)), (3, .int (nI k)), (5, .int (nI t)), (6, .int (nI (min (k_bytes k) b)))]) C dX5_resize_112 (by decide) rfl ?_
              refine z_iload C dX5_resize_114 0 rfl ?_
              refine z_if_ge (tgt := 123) C dX5_resize_116 (by decide) (fun h116 => ?_) (fun h116 => absurd h116 (fun q => q (nI_pos' (by omega))))
              refine z_iload C dX5_resize_123 4 rfl ?_
              exact z_iret C hrt rfl dX5_resize_125 (by decide) (by decide) (⟨by rw [hal]; rfl, by unfold r_rsS; rw [if_pos hB, hcl1, hcl2, hal, hca, hcl3, hmm]⟩)
          · skip
            have hjl : j < min (k_bytes k) b := by
              rcases Nat.lt_or_ge j (min (k_bytes k) b) with q9 | q9
              · exact q9
              · exact absurd (nI_le q9 (by omega)) h78
            refine z_aload_n C dX5_resize_81 rfl 1 rfl ?_
            refine z_get C fl_X5_7 dX5_resize_82 rfl rfl ?_
            refine z_iload C dX5_resize_85 4 rfl ?_
            refine z_iload C dX5_resize_87 0 rfl ?_
            refine z_iadd C dX5_resize_89 ?_
            refine z_casti (y := nI (t + j)) (nI_add _ _) ?_
            refine z_aload_n C dX5_resize_90 rfl 1 rfl ?_
            refine z_get C fl_X5_7 dX5_resize_91 rfl rfl ?_
            refine z_iload_n C dX5_resize_94 rfl 2 rfl ?_
            refine z_iload C dX5_resize_95 0 rfl ?_
            refine z_iadd C dX5_resize_97 ?_
            refine z_casti (y := nI (a + j)) (nI_add _ _) ?_
            refine z_ialdK C dX5_resize_98 rfl (by omega) (by decide) ?_
            refine z_iastK C dX5_resize_99 rfl (by omega) (by decide) ?_
            refine z_iinc (k := 0) (v := nI (j + 1)) (lv' := [(7, .int (nI (j + 1))), (0, .ref (base + 16)), (1, .int (nI a)), (3, .int (nI k)), (5, .int (nI t)), (6, .int (nI (min (k_bytes k) b)))]) C dX5_resize_100 rfl (nI_1 j) (by decide) rfl ?_
            refine z_goto (tgt := 74) C dX5_resize_103 (by decide) ?_
            refine z_lv (lv' := [(7, .int (nI (j + 1))), (0, .ref (base + 16)), (1, .int (nI a)), (3, .int (nI k)), (5, .int (nI t)), (6, .int (nI (min (k_bytes k) b)))]) [0, 1, 2, 3, 4, 5] rfl ?_
            refine z_hp (hp' := hpM G base xs (r_setm (r_alS r b) (va_up mm (t + j) (mm (a + j)))) tl) rfl ?_
            exact ih (j + 1) _ (by omega) (by omega) (by rw [← hv, show min (k_bytes k) b - j = (min (k_bytes k) b - (j + 1)) + 1 by omega]; rfl)
      refine z_hp (hp' := hpM G base xs (r_setm (r_alS r b) ((r_alS r b).2.1 0)) tl) rfl ?_
      exact loop (min (k_bytes k) b + 1) 0 _ (by omega) (by omega) rfl
    · skip
      refine z_iload_n C dX5_resize_61 rfl 2 rfl ?_
      refine z_callS (rest := []) C (m_X5_bytesOf l G base _ k hk) ml_X5_149 kw_X5_bytesOf rfl rfl (by simp [Value.category]) dX5_resize_62 (by decide) (by decide) (by decide) (by decide) ?_
      rintro _ _ ⟨rfl, rfl⟩
      refine z_st (st' := [.int (nI (k_bytes k))]) rfl ?_
      refine z_goto (tgt := 69) C dX5_resize_65 (by decide) ?_
      refine z_casti (y := nI (min (k_bytes k) b)) (by first | rw [Nat.min_eq_right ((nI_leI (by omega) (by omega)).mp h58)] | rw [Nat.min_eq_left (Nat.le_of_lt ((nI_ltI (by omega) (by omega)).mp (Int32.not_le.mp h58)))]) ?_
      refine z_istore (lv' := [(6, .int (nI (min (k_bytes k) b))), (5, .int (nI t)), (4, .int (nI (k_cls b))), (3, .int (nI k)), (0, .ref (base + 16)), (1, .int (nI a)), (2, .int (nI b))]) C dX5_resize_69 (by decide) rfl ?_
      refine z_iconst (v := 0) C dX5_resize_71 (by decide) ?_
      refine z_casti (y := nI 0) (rfl) ?_
      refine z_istore (lv' := [(7, .int (nI 0)), (6, .int (nI (min (k_bytes k) b))), (5, .int (nI t)), (4, .int (nI (k_cls b))), (3, .int (nI k)), (0, .ref (base + 16)), (1, .int (nI a)), (2, .int (nI b))]) C dX5_resize_72 (by decide) rfl ?_
      refine z_lv (lv' := [(7, .int (nI 0)), (0, .ref (base + 16)), (1, .int (nI a)), (3, .int (nI k)), (5, .int (nI t)), (6, .int (nI (min (k_bytes k) b)))]) [0, 5, 6, 4, 2, 1] rfl ?_
      have loop : ∀ (n : Nat) (j : Nat) (mm : Nat → Nat), (j ≤ min (k_bytes k) b) → (min (k_bytes k) b + 1 ≤ n + j) → (r_mcp mm a t (min (k_bytes k) b - j) j = r_mcp ((r_alS r b).2.1 0) a t (min (k_bytes k) b) 0) → z_R p l e (z_rm 8 0 0) s m ([Value.ref (base + 16), .int (nI a), .int (nI b)] : List Value).toArray below meth c (MQ below (z_Qc G base (fun v hp' => v = some (.int (oI (r_alO r b))) ∧ hp' = hpM G base xs (r_rsS r (nI a) (nI b)) tl)) ([Value.ref (base + 16), .int (nI a), .int (nI b)] : List Value).toArray s 0 0 (fun z => base ≤ z)) G base 8 0 0 74 [(7, .int (nI j)), (0, .ref (base + 16)), (1, .int (nI a)), (3, .int (nI k)), (5, .int (nI t)), (6, .int (nI (min (k_bytes k) b)))] [] (hpM G base xs (r_setm (r_alS r b) mm) tl) := by
        intro n
        induction n with
        | zero => intro j mm hj hn0 hv; exact absurd hn0 (by omega)
        | succ n ih =>
          intro j mm hj hn0 hv
          refine z_iload C dX5_resize_74 0 rfl ?_
          refine z_iload C dX5_resize_76 5 rfl ?_
          refine z_icmp_ge (tgt := 106) C dX5_resize_78 (by decide) (fun h78 => ?_) (fun h78 => ?_)
          · skip
            have hje : j = min (k_bytes k) b := by
              rcases Nat.lt_or_ge j (min (k_bytes k) b) with q9 | q9
              · exact absurd h78 (nI_ge q9 (by omega))
              · omega
            have hmm : mm = (r_mcp ((r_alS r b).2.1 0) a t (min (k_bytes k) b) 0) := by rw [← hv, hje, Nat.sub_self]; rfl
            rcases r_ca_cases hw2 (nI a) with h9 | h9 | ⟨a2, P, c0, ha3, hae, hsa, hc6, hc0, hcP, hf0, h9, hP, hPf, hPa, hfl⟩ | ⟨a2, ha3, hae, h64, hf0, h9, hPf⟩
            · skip
              exact absurd h9 (by rw [hca2]; intro q; exact absurd (show nI k < 0 by rw [q]; decide) (nI_pos (by omega)))
            · skip
              exact absurd h9 (by rw [hca2]; intro q; exact absurd (show nI k < 0 by rw [q]; decide) (nI_pos (by omega)))
            · skip
              have hkc : k = c0 := (nI_eq (by omega) (by omega)).mp (by rw [← hca2]; exact h9)
              have ha2 : a = a2 := (nI_eq (by omega) (by omega)).mp hae
              subst hkc; subst ha2
              refine z_aload_n C dX5_resize_106 rfl 1 rfl ?_
              refine z_iload_n C dX5_resize_107 rfl 2 rfl ?_
              refine z_iload_n C dX5_resize_108 rfl 3 rfl ?_
              refine z_callV (rest := []) C (m_X5_release l G base xs (r_setm (r_alS r b) mm) tl nc hw2 a P k ha hsa hc6 hc0 hcP hP hPf hPa hfl) ml_X5_146 kw_X5_release rfl rfl rfl rfl (by simp [Value.category]) dX5_resize_109 (by decide) (by decide) (by decide) (by decide) ?_
              rintro _ _ ⟨rfl, rfl⟩
              refine z_st (st' := [.int (nI (r_ob (r_alS r b) k - ((r_alS r b).2.1 4 P + 1)))]) rfl ?_
              have hob64 := (hw2.2.1 k hc0).2.2.2.2
              refine z_istore (lv' := [(7, .int (nI (r_ob (r_alS r b) k - ((r_alS r b).2.1 4 P + 1)))), (0, .ref (base + 16)), (1, .int (nI a)), (3, .int (nI k)), (5, .int (nI t)), (6, .int (nI (min (k_bytes k) b)))]) C dX5_resize_112 (by decide) rfl ?_
              refine z_iload C dX5_resize_114 0 rfl ?_
              refine z_if_ge (tgt := 123) C dX5_resize_116 (by decide) (fun h116 => ?_) (fun h116 => absurd h116 (fun q => q (nI_pos' (by omega))))
              refine z_iload C dX5_resize_123 4 rfl ?_
              exact z_iret C hrt rfl dX5_resize_125 (by decide) (by decide) (⟨by rw [hal]; rfl, by unfold r_rsS; rw [if_pos hB, hcl1, hcl2, hal, hca, hcl3, hmm]⟩)
            · skip
              have ha2 : a = a2 := (nI_eq (by omega) (by omega)).mp hae
              subst ha2
              have hk6 := hw2.1.2.1 (a / 64)
              have hkc : k = 6 + (r_alS r b).2.1 2 (a / 64) := (nI_eq (by omega) (by omega)).mp (by rw [← hca2]; exact h9)
              refine z_aload_n C dX5_resize_106 rfl 1 rfl ?_
              refine z_iload_n C dX5_resize_107 rfl 2 rfl ?_
              refine z_iload_n C dX5_resize_108 rfl 3 rfl ?_
              refine z_callV (rest := []) C (m_X5_release_2 l G base xs (r_setm (r_alS r b) mm) tl nc hw2 a k ha (by omega) hk hPf) ml_X5_146 kw_X5_release rfl rfl rfl rfl (by simp [Value.category]) dX5_resize_109 (by decide) (by decide) (by decide) (by decide) ?_
              rintro _ _ ⟨rfl, rfl⟩
              refine z_st (st' := [.int (nI (2 ^ (r_alS r b).2.1 2 (a / 64)))]) rfl ?_
              have hp64 := two_le ((r_alS r b).2.1 2 (a / 64)) (by omega)
              refine z_istore (lv' := [(7, .int (nI (2 ^ (r_alS r b).2.1 2 (a / 64)))), (0, .ref (base + 16)), (1, .int (nI a)), (3, .int (nI k)), (5, .int (nI t)), (6, .int (nI (min (k_bytes k) b)))]) C dX5_resize_112 (by decide) rfl ?_
              refine z_iload C dX5_resize_114 0 rfl ?_
              refine z_if_ge (tgt := 123) C dX5_resize_116 (by decide) (fun h116 => ?_) (fun h116 => absurd h116 (fun q => q (nI_pos' (by omega))))
              refine z_iload C dX5_resize_123 4 rfl ?_
              exact z_iret C hrt rfl dX5_resize_125 (by decide) (by decide) (⟨by rw [hal]; rfl, by unfold r_rsS; rw [if_pos hB, hcl1, hcl2, hal, hca, hcl3, hmm]⟩)
          · skip
            have hjl : j < min (k_bytes k) b := by
              rcases Nat.lt_or_ge j (min (k_bytes k) b) with q9 | q9
              · exact q9
              · exact absurd (nI_le q9 (by omega)) h78
            refine z_aload_n C dX5_resize_81 rfl 1 rfl ?_
            refine z_get C fl_X5_7 dX5_resize_82 rfl rfl ?_
            refine z_iload C dX5_resize_85 4 rfl ?_
            refine z_iload C dX5_resize_87 0 rfl ?_
            refine z_iadd C dX5_resize_89 ?_
            refine z_casti (y := nI (t + j)) (nI_add _ _) ?_
            refine z_aload_n C dX5_resize_90 rfl 1 rfl ?_
            refine z_get C fl_X5_7 dX5_resize_91 rfl rfl ?_
            refine z_iload_n C dX5_resize_94 rfl 2 rfl ?_
            refine z_iload C dX5_resize_95 0 rfl ?_
            refine z_iadd C dX5_resize_97 ?_
            refine z_casti (y := nI (a + j)) (nI_add _ _) ?_
            refine z_ialdK C dX5_resize_98 rfl (by omega) (by decide) ?_
            refine z_iastK C dX5_resize_99 rfl (by omega) (by decide) ?_
            refine z_iinc (k := 0) (v := nI (j + 1)) (lv' := [(7, .int (nI (j + 1))), (0, .ref (base + 16)), (1, .int (nI a)), (3, .int (nI k)), (5, .int (nI t)), (6, .int (nI (min (k_bytes k) b)))]) C dX5_resize_100 rfl (nI_1 j) (by decide) rfl ?_
            refine z_goto (tgt := 74) C dX5_resize_103 (by decide) ?_
            refine z_lv (lv' := [(7, .int (nI (j + 1))), (0, .ref (base + 16)), (1, .int (nI a)), (3, .int (nI k)), (5, .int (nI t)), (6, .int (nI (min (k_bytes k) b)))]) [0, 1, 2, 3, 4, 5] rfl ?_
            refine z_hp (hp' := hpM G base xs (r_setm (r_alS r b) (va_up mm (t + j) (mm (a + j)))) tl) rfl ?_
            exact ih (j + 1) _ (by omega) (by omega) (by rw [← hv, show min (k_bytes k) b - j = (min (k_bytes k) b - (j + 1)) + 1 by omega]; rfl)
      refine z_hp (hp' := hpM G base xs (r_setm (r_alS r b) ((r_alS r b).2.1 0)) tl) rfl ?_
      exact loop (min (k_bytes k) b + 1) 0 _ (by omega) (by omega) rfl
