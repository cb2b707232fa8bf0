set_option maxHeartbeats 4000000 in
set_option maxRecDepth 100000 in
theorem m_X5_addCache (l : Launch) (G : z_G) (base : Nat) (xs : Nat → va_E) (r : r_T) (tl : List va_E) (nc b a : Nat) (hnc : r.1 1 = nI nc) (hnc2 : nc < 12) (hb : 1 ≤ b) (hb2 : b ≤ 1024) (ha : 1 ≤ a) (ha2 : a ≤ 64) : z_M l G base yX5_addCache cX5_addCache 4 (some .int) 0 0 0 [.ref (base + 16), .int (nI b), .int (nI a)] (hpM G base xs r tl) (fun v hp' => v = some (.int (nI nc)) ∧ hp' = hpM G base xs (r_ac r nc b a) tl) := by
  refine z_M.of (lv0 := [(0, .ref (base + 16)), (1, .int (nI b)), (2, .int (nI a))]) (by decide) (Nat.le_of_ble_eq_true rfl) rfl ?_
  intro p e s m below meth c hmn hrt C
  have hs1 := k_str_pos hb ha
  have hs2 := k_str_le (b := b) (a := a)
  refine z_aload_n C dX5_addCache_0 rfl 0 rfl ?_
  refine z_get C fl_X5_35 dX5_addCache_1 rfl rfl ?_
  refine z_aload_n C dX5_addCache_4 rfl 0 rfl ?_
  refine z_get C fl_X5_110 dX5_addCache_5 rfl rfl ?_
  refine z_casti (y := nI nc) (hnc) ?_
  refine z_iload_n C dX5_addCache_8 rfl 1 rfl ?_
  refine z_iastK C dX5_addCache_9 rfl (by omega) (by decide) ?_
  refine z_aload_n C dX5_addCache_10 rfl 0 rfl ?_
  refine z_get C fl_X5_38 dX5_addCache_11 rfl rfl ?_
  refine z_aload_n C dX5_addCache_14 rfl 0 rfl ?_
  refine z_get C fl_X5_110 dX5_addCache_15 rfl rfl ?_
  refine z_casti (y := nI nc) (hnc) ?_
  refine z_iload_n C dX5_addCache_18 rfl 2 rfl ?_
  refine z_iastK C dX5_addCache_19 rfl (by omega) (by decide) ?_
  refine z_aload_n C dX5_addCache_20 rfl 0 rfl ?_
  refine z_get C fl_X5_41 dX5_addCache_21 rfl rfl ?_
  refine z_aload_n C dX5_addCache_24 rfl 0 rfl ?_
  refine z_get C fl_X5_110 dX5_addCache_25 rfl rfl ?_
  refine z_casti (y := nI nc) (hnc) ?_
  refine z_iload_n C dX5_addCache_28 rfl 1 rfl ?_
  refine z_iload_n C dX5_addCache_29 rfl 2 rfl ?_
  refine z_iadd C dX5_addCache_30 ?_
  refine z_casti (y := nI (b + a)) (nI_add _ _) ?_
  refine z_iconst (v := 1) C dX5_addCache_31 (by decide) ?_
  refine z_isub C dX5_addCache_32 ?_
  refine z_casti (y := nI (b + a - 1)) (pk_sub (b := 1) (by omega)) ?_
  refine z_iload_n C dX5_addCache_33 rfl 2 rfl ?_
  refine z_idiv C dX5_addCache_34 (nI_ne0 ha (by omega)) ?_
  refine z_casti (y := nI ((b + a - 1) / a)) (pk_div (by omega) ha (by omega)) ?_
  refine z_iload_n C dX5_addCache_35 rfl 2 rfl ?_
  refine z_imul C dX5_addCache_36 ?_
  refine z_casti (y := nI (k_str b a)) (pk_mul _ _) ?_
  refine z_iastK C dX5_addCache_37 rfl (by omega) (by decide) ?_
  refine z_iconst (v := 0) C dX5_addCache_38 (by decide) ?_
  refine z_casti (y := nI 0) (rfl) ?_
  refine z_istore_n (lv' := [(3, .int (nI 0)), (0, .ref (base + 16)), (1, .int (nI b)), (2, .int (nI a))]) C dX5_addCache_39 rfl (by decide) rfl ?_
  refine z_lv (lv' := [(3, .int (nI 0)), (0, .ref (base + 16))]) [0, 1] rfl ?_
  have loop : ∀ (n : Nat) (j : Nat), (j ≤ 4) → (5 ≤ n + j) → (q_so (k_str b a) (4 - j) j = q_so (k_str b a) 4 0) → z_R p l e (z_rm 0 0 0) s m ([Value.ref (base + 16), .int (nI b), .int (nI a)] : List Value).toArray below meth c (MQ below (z_Qc G base (fun v hp' => v = some (.int (nI nc)) ∧ hp' = hpM G base xs (r_ac r nc b a) tl)) ([Value.ref (base + 16), .int (nI b), .int (nI a)] : List Value).toArray s 0 0 (fun z => base ≤ z)) G base 4 0 0 40 [(3, .int (nI j)), (0, .ref (base + 16))] [] (hpM G base xs (r.1, va_up (va_up (va_up r.2.1 5 (va_up (r.2.1 5) nc b)) 6 (va_up (r.2.1 6) nc a)) 7 (va_up (r.2.1 7) nc (k_str b a)), r.2.2) tl) := by
    intro n
    induction n with
    | zero => intro j hj hn0 hv; exact absurd hn0 (by omega)
    | succ n ih =>
      intro j hj hn0 hv
      have hdv : 64 * 2 ^ j / k_str b a ≤ 64 * 2 ^ j := Nat.div_le_self _ _
      have hp2 := two_le j (by omega)
      refine z_iload_n C dX5_addCache_40 rfl 0 rfl ?_
      refine z_iconst (v := 4) C dX5_addCache_41 (by decide) ?_
      refine z_icmp_ge (tgt := 69) C dX5_addCache_42 (by decide) (fun h42 => ?_) (fun h42 => ?_)
      · skip
        have hlt : ¬ (j < 4 ∧ 64 * 2 ^ j / k_str b a < 4) := fun z => absurd h42 (nI_ge z.1 (by decide))
        refine z_aload_n C dX5_addCache_69 rfl 1 rfl ?_
        refine z_get C fl_X5_44 dX5_addCache_70 rfl rfl ?_
        refine z_aload_n C dX5_addCache_73 rfl 1 rfl ?_
        refine z_get C fl_X5_110 dX5_addCache_74 rfl rfl ?_
        refine z_casti (y := nI nc) (hnc) ?_
        refine z_iload_n C dX5_addCache_77 rfl 0 rfl ?_
        refine z_iastK C dX5_addCache_78 rfl (by omega) (by decide) ?_
        refine z_aload_n C dX5_addCache_79 rfl 1 rfl ?_
        refine z_get C fl_X5_47 dX5_addCache_80 rfl rfl ?_
        refine z_aload_n C dX5_addCache_83 rfl 1 rfl ?_
        refine z_get C fl_X5_110 dX5_addCache_84 rfl rfl ?_
        refine z_casti (y := nI nc) (hnc) ?_
        refine z_iconst (v := -1) C dX5_addCache_87 (by decide) ?_
        refine z_iastN C dX5_addCache_88 rfl (by omega) (by decide) ?_
        refine z_aload_n C dX5_addCache_89 rfl 1 rfl ?_
        refine z_dup C dX5_addCache_90 rfl ?_
        refine z_get C fl_X5_110 dX5_addCache_91 rfl rfl ?_
        refine z_casti (y := nI nc) (hnc) ?_
        refine z_iconst (v := 1) C dX5_addCache_94 (by decide) ?_
        refine z_iadd C dX5_addCache_95 ?_
        refine z_casti (y := nI (nc + 1)) (nI_1 nc) ?_
        refine z_put C fl_X5_110 fp_X5 rfl dX5_addCache_96 rfl (by simp) rfl rfl ?_
        refine z_aload_n C dX5_addCache_99 rfl 1 rfl ?_
        refine z_get C fl_X5_110 dX5_addCache_100 rfl rfl ?_
        refine z_iconst (v := 1) C dX5_addCache_103 (by decide) ?_
        refine z_isub C dX5_addCache_104 ?_
        refine z_casti (y := nI nc) (nI_pred nc) ?_
        exact z_iret C hrt rfl dX5_addCache_105 (by decide) (by decide) (⟨rfl, by unfold r_ac; rw [← hv, q_so_end hlt]; rfl⟩)
      · skip
        have hj4 : j < 4 := by
          rcases Nat.lt_or_ge j 4 with z | z
          · exact z
          · exact absurd (nI_le (a := 4) (b := j) z (by omega)) h42
        refine z_bipush (v := 64) C dX5_addCache_45 (by decide) ?_
        refine z_iload_n C dX5_addCache_47 rfl 0 rfl ?_
        refine z_ishl C dX5_addCache_48 ?_
        refine z_casti (y := nI (64 * 2 ^ j)) (nI_64 _ (by omega)) ?_
        refine z_aload_n C dX5_addCache_49 rfl 1 rfl ?_
        refine z_get C fl_X5_41 dX5_addCache_50 rfl rfl ?_
        refine z_aload_n C dX5_addCache_53 rfl 1 rfl ?_
        refine z_get C fl_X5_110 dX5_addCache_54 rfl rfl ?_
        refine z_casti (y := nI nc) (hnc) ?_
        refine z_ialdK C dX5_addCache_57 rfl (by omega) (by decide) ?_
        refine z_casti (y := nI (k_str b a)) (by show nI (va_up (r.2.1 7) nc (k_str b a) nc) = _; rw [va_up_self]) ?_
        refine z_idiv C dX5_addCache_58 (nI_ne0 hs1 (by omega)) ?_
        refine z_casti (y := nI (64 * 2 ^ j / k_str b a)) (pk_div (by omega) hs1 (by omega)) ?_
        refine z_iconst (v := 4) C dX5_addCache_59 (by decide) ?_
        refine z_icmp_ge (tgt := 69) C dX5_addCache_60 (by decide) (fun h60 => ?_) (fun h60 => ?_)
        · skip
          have hlt : ¬ (j < 4 ∧ 64 * 2 ^ j / k_str b a < 4) := fun z => absurd h60 (nI_ge z.2 (by decide))
          refine z_aload_n C dX5_addCache_69 rfl 1 rfl ?_
          refine z_get C fl_X5_44 dX5_addCache_70 rfl rfl ?_
          refine z_aload_n C dX5_addCache_73 rfl 1 rfl ?_
          refine z_get C fl_X5_110 dX5_addCache_74 rfl rfl ?_
          refine z_casti (y := nI nc) (hnc) ?_
          refine z_iload_n C dX5_addCache_77 rfl 0 rfl ?_
          refine z_iastK C dX5_addCache_78 rfl (by omega) (by decide) ?_
          refine z_aload_n C dX5_addCache_79 rfl 1 rfl ?_
          refine z_get C fl_X5_47 dX5_addCache_80 rfl rfl ?_
          refine z_aload_n C dX5_addCache_83 rfl 1 rfl ?_
          refine z_get C fl_X5_110 dX5_addCache_84 rfl rfl ?_
          refine z_casti (y := nI nc) (hnc) ?_
          refine z_iconst (v := -1) C dX5_addCache_87 (by decide) ?_
          refine z_iastN C dX5_addCache_88 rfl (by omega) (by decide) ?_
          refine z_aload_n C dX5_addCache_89 rfl 1 rfl ?_
          refine z_dup C dX5_addCache_90 rfl ?_
          refine z_get C fl_X5_110 dX5_addCache_91 rfl rfl ?_
          refine z_casti (y := nI nc) (hnc) ?_
          refine z_iconst (v := 1) C dX5_addCache_94 (by decide) ?_
          refine z_iadd C dX5_addCache_95 ?_
          refine z_casti (y := nI (nc + 1)) (nI_1 nc) ?_
          refine z_put C fl_X5_110 fp_X5 rfl dX5_addCache_96 rfl (by simp) rfl rfl ?_
          refine z_aload_n C dX5_addCache_99 rfl 1 rfl ?_
          refine z_get C fl_X5_110 dX5_addCache_100 rfl rfl ?_
          refine z_iconst (v := 1) C dX5_addCache_103 (by decide) ?_
          refine z_isub C dX5_addCache_104 ?_
          refine z_casti (y := nI nc) (nI_pred nc) ?_
          exact z_iret C hrt rfl dX5_addCache_105 (by decide) (by decide) (⟨rfl, by unfold r_ac; rw [← hv, q_so_end hlt]; rfl⟩)
        · skip
          have hlt : 64 * 2 ^ j / k_str b a < 4 := by
            rcases Nat.lt_or_ge (64 * 2 ^ j / k_str b a) 4 with z | z
            · exact z
            · exact absurd (nI_le (a := 4) z (by omega)) h60
          refine z_iinc (k := 0) (v := nI (j + 1)) (lv' := [(3, .int (nI (j + 1))), (0, .ref (base + 16))]) C dX5_addCache_63 rfl (nI_1 j) (by decide) rfl ?_
          refine z_goto (tgt := 40) C dX5_addCache_66 (by decide) ?_
          refine z_lv (lv' := [(3, .int (nI (j + 1))), (0, .ref (base + 16))]) [0, 1] rfl ?_
          exact ih (j + 1) (by omega) (by omega) (by rw [← hv]; exact (q_so_go hj4 hlt).symm)
  refine z_hp (hp' := hpM G base xs (r.1, va_up (va_up (va_up r.2.1 5 (va_up (r.2.1 5) nc b)) 6 (va_up (r.2.1 6) nc a)) 7 (va_up (r.2.1 7) nc (k_str b a)), r.2.2) tl) rfl ?_
  exact loop 5 0 (by omega) (by omega) rfl

set_option maxHeartbeats 4000000 in
set_option maxRecDepth 100000 in
theorem m_X5_cache (l : Launch) (G : z_G) (base : Nat) (xs : Nat → va_E) (r : r_T) (tl : List va_E) (x y : Int32) (nc : Nat) (hnc : r.1 1 = nI nc) (hnc2 : nc ≤ 12) : z_M l G base yX5_cache cX5_cache 4 (some .int) 1 0 0 [.ref (base + 16), .int (x), .int (y)] (hpM G base xs r tl) (fun v hp' => v = some (.int (r_chA r (x) (y))) ∧ hp' = hpM G base xs (r_chS r (x) (y)) tl) := by
  refine z_M.of (lv0 := [(0, .ref (base + 16)), (1, .int (x)), (2, .int (y))]) (by decide) (Nat.le_of_ble_eq_true rfl) rfl ?_
  intro p e s m below meth c hmn hrt C
  refine z_aload_n C dX5_cache_0 rfl 0 rfl ?_
  refine z_get C fl_X5_58 dX5_cache_1 rfl rfl ?_
  refine z_if_eq (tgt := 49) C dX5_cache_4 (by decide) (fun h4 => ?_) (fun h4 => ?_)
  · skip
    refine z_iconst (v := 0) C dX5_cache_49 (by decide) ?_
    refine z_istore_n (lv' := [(3, .int ((0 : Int32))), (0, .ref (base + 16)), (1, .int (x)), (2, .int (y))]) C dX5_cache_50 rfl (by decide) rfl ?_
    refine z_iload_n C dX5_cache_51 rfl 0 rfl ?_
    refine z_if_eq (tgt := 64) C dX5_cache_52 (by decide) (fun h52 => ?_) (fun h52 => absurd h52 (by decide))
    refine z_iconst (v := -1) C dX5_cache_64 (by decide) ?_
    exact z_iret C hrt rfl dX5_cache_65 (by decide) (by decide) (by first | exact ⟨by unfold r_chA; rw [if_neg (by rw [show r_chB r x y = false from decide_eq_false (by first | exact fun q => q.1 h4 | exact fun q => bI_eq h15 q.2.1 | exact fun q => bI_eq h25 q.2.2.1 | exact fun q => h33 q.2.2.2.1 | exact fun q => absurd h42 (Int32.not_le.mpr q.2.2.2.2))]; exact Bool.false_ne_true)], by unfold r_chS; rw [if_neg (by rw [show r_chB r x y = false from decide_eq_false (by first | exact fun q => q.1 h4 | exact fun q => bI_eq h15 q.2.1 | exact fun q => bI_eq h25 q.2.2.1 | exact fun q => h33 q.2.2.2.1 | exact fun q => absurd h42 (Int32.not_le.mpr q.2.2.2.2))]; exact Bool.false_ne_true)]⟩ | exact ⟨by unfold r_chA; rw [if_pos hB, hnc], by unfold r_chS; rw [if_pos hB, hnc, nI_clamp (by omega), nI_clamp (by omega), nI_clamp (by omega)]⟩)
  · skip
    refine z_iload_n C dX5_cache_7 rfl 1 rfl ?_
    refine z_iconst (v := 1) C dX5_cache_8 (by decide) ?_
    refine z_sipush (v := 1024) C dX5_cache_9 (by decide) ?_
    refine z_callS (rest := []) C (m_X5_in l G base _ (x) ((1 : Int32)) ((1024 : Int32))) ml_X5_62 kw_X5_in rfl rfl (by simp [Value.category]) dX5_cache_12 (by decide) (by decide) (by decide) (by decide) ?_
    rintro _ _ ⟨rfl, rfl⟩
    refine z_st (st' := [.int ((bI (decide ((1 : Int32) ≤ x ∧ x ≤ (1024 : Int32)))))]) rfl ?_
    refine z_if_eq (tgt := 49) C dX5_cache_15 (by decide) (fun h15 => ?_) (fun h15 => ?_)
    · skip
      refine z_iconst (v := 0) C dX5_cache_49 (by decide) ?_
      refine z_istore_n (lv' := [(3, .int ((0 : Int32))), (0, .ref (base + 16)), (1, .int (x)), (2, .int (y))]) C dX5_cache_50 rfl (by decide) rfl ?_
      refine z_iload_n C dX5_cache_51 rfl 0 rfl ?_
      refine z_if_eq (tgt := 64) C dX5_cache_52 (by decide) (fun h52 => ?_) (fun h52 => absurd h52 (by decide))
      refine z_iconst (v := -1) C dX5_cache_64 (by decide) ?_
      exact z_iret C hrt rfl dX5_cache_65 (by decide) (by decide) (by first | exact ⟨by unfold r_chA; rw [if_neg (by rw [show r_chB r x y = false from decide_eq_false (by first | exact fun q => q.1 h4 | exact fun q => bI_eq h15 q.2.1 | exact fun q => bI_eq h25 q.2.2.1 | exact fun q => h33 q.2.2.2.1 | exact fun q => absurd h42 (Int32.not_le.mpr q.2.2.2.2))]; exact Bool.false_ne_true)], by unfold r_chS; rw [if_neg (by rw [show r_chB r x y = false from decide_eq_false (by first | exact fun q => q.1 h4 | exact fun q => bI_eq h15 q.2.1 | exact fun q => bI_eq h25 q.2.2.1 | exact fun q => h33 q.2.2.2.1 | exact fun q => absurd h42 (Int32.not_le.mpr q.2.2.2.2))]; exact Bool.false_ne_true)]⟩ | exact ⟨by unfold r_chA; rw [if_pos hB, hnc], by unfold r_chS; rw [if_pos hB, hnc, nI_clamp (by omega), nI_clamp (by omega), nI_clamp (by omega)]⟩)
    · skip
      refine z_iload_n C dX5_cache_18 rfl 2 rfl ?_
      refine z_iconst (v := 1) C dX5_cache_19 (by decide) ?_
      refine z_bipush (v := 64) C dX5_cache_20 (by decide) ?_
      refine z_callS (rest := []) C (m_X5_in l G base _ (y) ((1 : Int32)) ((64 : Int32))) ml_X5_62 kw_X5_in rfl rfl (by simp [Value.category]) dX5_cache_22 (by decide) (by decide) (by decide) (by decide) ?_
      rintro _ _ ⟨rfl, rfl⟩
      refine z_st (st' := [.int ((bI (decide ((1 : Int32) ≤ y ∧ y ≤ (64 : Int32)))))]) rfl ?_
      refine z_if_eq (tgt := 49) C dX5_cache_25 (by decide) (fun h25 => ?_) (fun h25 => ?_)
      · skip
        refine z_iconst (v := 0) C dX5_cache_49 (by decide) ?_
        refine z_istore_n (lv' := [(3, .int ((0 : Int32))), (0, .ref (base + 16)), (1, .int (x)), (2, .int (y))]) C dX5_cache_50 rfl (by decide) rfl ?_
        refine z_iload_n C dX5_cache_51 rfl 0 rfl ?_
        refine z_if_eq (tgt := 64) C dX5_cache_52 (by decide) (fun h52 => ?_) (fun h52 => absurd h52 (by decide))
        refine z_iconst (v := -1) C dX5_cache_64 (by decide) ?_
        exact z_iret C hrt rfl dX5_cache_65 (by decide) (by decide) (by first | exact ⟨by unfold r_chA; rw [if_neg (by rw [show r_chB r x y = false from decide_eq_false (by first | exact fun q => q.1 h4 | exact fun q => bI_eq h15 q.2.1 | exact fun q => bI_eq h25 q.2.2.1 | exact fun q => h33 q.2.2.2.1 | exact fun q => absurd h42 (Int32.not_le.mpr q.2.2.2.2))]; exact Bool.false_ne_true)], by unfold r_chS; rw [if_neg (by rw [show r_chB r x y = false from decide_eq_false (by first | exact fun q => q.1 h4 | exact fun q => bI_eq h15 q.2.1 | exact fun q => bI_eq h25 q.2.2.1 | exact fun q => h33 q.2.2.2.1 | exact fun q => absurd h42 (Int32.not_le.mpr q.2.2.2.2))]; exact Bool.false_ne_true)]⟩ | exact ⟨by unfold r_chA; rw [if_pos hB, hnc], by unfold r_chS; rw [if_pos hB, hnc, nI_clamp (by omega), nI_clamp (by omega), nI_clamp (by omega)]⟩)
      · skip
        refine z_iload_n C dX5_cache_28 rfl 2 rfl ?_
        refine z_iload_n C dX5_cache_29 rfl 2 rfl ?_
        refine z_iconst (v := 1) C dX5_cache_30 (by decide) ?_
        refine z_isub C dX5_cache_31 ?_
        refine z_iand C dX5_cache_32 ?_
        refine z_if_ne (tgt := 49) C dX5_cache_33 (by decide) (fun h33 => ?_) (fun h33 => ?_)
        · skip
          refine z_iconst (v := 0) C dX5_cache_49 (by decide) ?_
          refine z_istore_n (lv' := [(3, .int ((0 : Int32))), (0, .ref (base + 16)), (1, .int (x)), (2, .int (y))]) C dX5_cache_50 rfl (by decide) rfl ?_
          refine z_iload_n C dX5_cache_51 rfl 0 rfl ?_
          refine z_if_eq (tgt := 64) C dX5_cache_52 (by decide) (fun h52 => ?_) (fun h52 => absurd h52 (by decide))
          refine z_iconst (v := -1) C dX5_cache_64 (by decide) ?_
          exact z_iret C hrt rfl dX5_cache_65 (by decide) (by decide) (by first | exact ⟨by unfold r_chA; rw [if_neg (by rw [show r_chB r x y = false from decide_eq_false (by first | exact fun q => q.1 h4 | exact fun q => bI_eq h15 q.2.1 | exact fun q => bI_eq h25 q.2.2.1 | exact fun q => h33 q.2.2.2.1 | exact fun q => absurd h42 (Int32.not_le.mpr q.2.2.2.2))]; exact Bool.false_ne_true)], by unfold r_chS; rw [if_neg (by rw [show r_chB r x y = false from decide_eq_false (by first | exact fun q => q.1 h4 | exact fun q => bI_eq h15 q.2.1 | exact fun q => bI_eq h25 q.2.2.1 | exact fun q => h33 q.2.2.2.1 | exact fun q => absurd h42 (Int32.not_le.mpr q.2.2.2.2))]; exact Bool.false_ne_true)]⟩ | exact ⟨by unfold r_chA; rw [if_pos hB, hnc], by unfold r_chS; rw [if_pos hB, hnc, nI_clamp (by omega), nI_clamp (by omega), nI_clamp (by omega)]⟩)
        · skip
          refine z_aload_n C dX5_cache_36 rfl 0 rfl ?_
          refine z_get C fl_X5_110 dX5_cache_37 rfl rfl ?_
          refine z_bipush (v := 12) C dX5_cache_40 (by decide) ?_
          refine z_icmp_ge (tgt := 49) C dX5_cache_42 (by decide) (fun h42 => ?_) (fun h42 => ?_)
          · skip
            refine z_iconst (v := 0) C dX5_cache_49 (by decide) ?_
            refine z_istore_n (lv' := [(3, .int ((0 : Int32))), (0, .ref (base + 16)), (1, .int (x)), (2, .int (y))]) C dX5_cache_50 rfl (by decide) rfl ?_
            refine z_iload_n C dX5_cache_51 rfl 0 rfl ?_
            refine z_if_eq (tgt := 64) C dX5_cache_52 (by decide) (fun h52 => ?_) (fun h52 => absurd h52 (by decide))
            refine z_iconst (v := -1) C dX5_cache_64 (by decide) ?_
            exact z_iret C hrt rfl dX5_cache_65 (by decide) (by decide) (by first | exact ⟨by unfold r_chA; rw [if_neg (by rw [show r_chB r x y = false from decide_eq_false (by first | exact fun q => q.1 h4 | exact fun q => bI_eq h15 q.2.1 | exact fun q => bI_eq h25 q.2.2.1 | exact fun q => h33 q.2.2.2.1 | exact fun q => absurd h42 (Int32.not_le.mpr q.2.2.2.2))]; exact Bool.false_ne_true)], by unfold r_chS; rw [if_neg (by rw [show r_chB r x y = false from decide_eq_false (by first | exact fun q => q.1 h4 | exact fun q => bI_eq h15 q.2.1 | exact fun q => bI_eq h25 q.2.2.1 | exact fun q => h33 q.2.2.2.1 | exact fun q => absurd h42 (Int32.not_le.mpr q.2.2.2.2))]; exact Bool.false_ne_true)]⟩ | exact ⟨by unfold r_chA; rw [if_pos hB, hnc], by unfold r_chS; rw [if_pos hB, hnc, nI_clamp (by omega), nI_clamp (by omega), nI_clamp (by omega)]⟩)
          · skip
            have hB : r_chB r x y = true := decide_eq_true ⟨h4, bI_ne h15, bI_ne h25, h33, Int32.not_le.mp h42⟩
            obtain ⟨b, hb, hb2, rfl⟩ := in1_of (M := 1024) (by decide) (bI_ne h15)
            obtain ⟨a, ha, ha2, rfl⟩ := in1_of (M := 64) (by decide) (bI_ne h25)
            have hnc3 : nc < 12 := (nI_ltI (by omega) (by decide)).mp (by rw [← hnc]; exact Int32.not_le.mp h42)
            refine z_iconst (v := 1) C dX5_cache_45 (by decide) ?_
            refine z_goto (tgt := 50) C dX5_cache_46 (by decide) ?_
            refine z_istore_n (lv' := [(3, .int ((1 : Int32))), (0, .ref (base + 16)), (1, .int (nI b)), (2, .int (nI a))]) C dX5_cache_50 rfl (by decide) rfl ?_
            refine z_iload_n C dX5_cache_51 rfl 0 rfl ?_
            refine z_if_eq (tgt := 64) C dX5_cache_52 (by decide) (fun h52 => absurd h52 (by decide)) (fun h52 => ?_)
            refine z_aload_n C dX5_cache_55 rfl 1 rfl ?_
            refine z_iload_n C dX5_cache_56 rfl 2 rfl ?_
            refine z_iload_n C dX5_cache_57 rfl 3 rfl ?_
            refine z_callV (rest := []) C (m_X5_addCache l G base xs r tl nc b a hnc hnc3 hb hb2 ha ha2) ml_X5_54 kw_X5_addCache rfl rfl rfl rfl (by simp [Value.category]) dX5_cache_58 (by decide) (by decide) (by decide) (by decide) ?_
            rintro _ _ ⟨rfl, rfl⟩
            refine z_st (st' := [.int (nI nc)]) rfl ?_
            refine z_goto (tgt := 65) C dX5_cache_61 (by decide) ?_
            exact z_iret C hrt rfl dX5_cache_65 (by decide) (by decide) (by first | exact ⟨by unfold r_chA; rw [if_neg (by rw [show r_chB r x y = false from decide_eq_false (by first | exact fun q => q.1 h4 | exact fun q => bI_eq h15 q.2.1 | exact fun q => bI_eq h25 q.2.2.1 | exact fun q => h33 q.2.2.2.1 | exact fun q => absurd h42 (Int32.not_le.mpr q.2.2.2.2))]; exact Bool.false_ne_true)], by unfold r_chS; rw [if_neg (by rw [show r_chB r x y = false from decide_eq_false (by first | exact fun q => q.1 h4 | exact fun q => bI_eq h15 q.2.1 | exact fun q => bI_eq h25 q.2.2.1 | exact fun q => h33 q.2.2.2.1 | exact fun q => absurd h42 (Int32.not_le.mpr q.2.2.2.2))]; exact Bool.false_ne_true)]⟩ | exact ⟨by unfold r_chA; rw [if_pos hB, hnc], by unfold r_chS; rw [if_pos hB, hnc, nI_clamp (by omega), nI_clamp (by omega), nI_clamp (by omega)]⟩)

set_option maxHeartbeats 4000000 in
set_option maxRecDepth 100000 in
theorem m_X5_newSlab (l : Launch) (G : z_G) (base : Nat) (xs : Nat → va_E) (r : r_T) (tl : List va_E) (hfo : ∀ p, r.2.1 1 p < 256) (hoo : ∀ p, r.2.1 2 p ≤ 6) (hal : ∀ p, p < 256 → r_free r p = true → p + 2 ^ r.2.1 2 p ≤ 256) (c0 : Nat) (hc : c0 < 12) (hs : 1 ≤ r.2.1 7 c0) (hs2 : r.2.1 7 c0 < 65536) (ho : r.2.1 8 c0 ≤ 4) (hob : r_ob r c0 ≤ 64) : z_M l G base yX5_newSlab cX5_newSlab 5 (some .int) 5 0 0 [.ref (base + 16), .int (nI c0)] (hpM G base xs r tl) (fun v hp' => v = some (.int (oI (r_tk r (r.2.1 8 c0)))) ∧ hp' = hpM G base xs (r_nsS r c0) tl) := by
  refine z_M.of (lv0 := [(0, .ref (base + 16)), (1, .int (nI c0))]) (by decide) (Nat.le_of_ble_eq_true rfl) rfl ?_
  intro p e s m below meth c hmn hrt C
  have e7 : (r_tks r (r.2.1 8 c0)).2.1 7 = r.2.1 7 := (r_tks_na (by decide) (by decide)).1
  have e8 : (r_tks r (r.2.1 8 c0)).2.1 8 = r.2.1 8 := (r_tks_na (by decide) (by decide)).1
  refine z_aload_n C dX5_newSlab_0 rfl 0 rfl ?_
  refine z_aload_n C dX5_newSlab_1 rfl 0 rfl ?_
  refine z_get C fl_X5_44 dX5_newSlab_2 rfl rfl ?_
  refine z_iload_n C dX5_newSlab_5 rfl 1 rfl ?_
  refine z_ialdK C dX5_newSlab_6 rfl (by omega) (by decide) ?_
  refine z_callV (rest := []) C (m_X5_takeBlock l G base xs r tl hfo hoo hal (r.2.1 8 c0) (by omega)) ml_X5_100 kw_X5_takeBlock rfl rfl rfl rfl (by simp [Value.category]) dX5_newSlab_7 (by decide) (by decide) (by decide) (by decide) ?_
  rintro _ _ ⟨rfl, rfl⟩
  refine z_st (st' := [.int (oI (r_tk r (r.2.1 8 c0)))]) rfl ?_
  rcases opt_cases (r_tk r (r.2.1 8 c0)) with htk | ⟨P, htk⟩
  · skip
    refine z_casti (y := -1) (by rw [htk]; rfl) ?_
    refine z_istore_n (lv' := [(2, .int ((-1 : Int32))), (0, .ref (base + 16)), (1, .int (nI c0))]) C dX5_newSlab_10 rfl (by decide) rfl ?_
    refine z_iload_n C dX5_newSlab_11 rfl 0 rfl ?_
    refine z_if_lt (tgt := 68) C dX5_newSlab_12 (by decide) (fun h12 => ?_) (fun h12 => absurd h12 (by decide))
    refine z_iload_n C dX5_newSlab_68 rfl 0 rfl ?_
    exact z_iret C hrt rfl dX5_newSlab_69 (by decide) (by decide) (⟨by rw [htk]; rfl, by unfold r_nsS; rw [htk]⟩)
  · skip
    refine z_casti (y := nI P) (by rw [htk]; rfl) ?_
    have hP : P < 256 := r_tk_lt htk
    refine z_istore_n (lv' := [(2, .int (nI P)), (0, .ref (base + 16)), (1, .int (nI c0))]) C dX5_newSlab_10 rfl (by decide) rfl ?_
    refine z_iload_n C dX5_newSlab_11 rfl 0 rfl ?_
    refine z_if_lt (tgt := 68) C dX5_newSlab_12 (by decide) (fun h12 => absurd h12 (nI_pos (by omega))) (fun h12 => ?_)
    refine z_aload_n C dX5_newSlab_15 rfl 1 rfl ?_
    refine z_get C fl_X5_26 dX5_newSlab_16 rfl rfl ?_
    refine z_iload_n C dX5_newSlab_19 rfl 0 rfl ?_
    refine z_iload_n C dX5_newSlab_20 rfl 2 rfl ?_
    refine z_iastN C dX5_newSlab_21 rfl (by omega) (by decide) ?_
    refine z_hp (hp' := hpM G base xs ((r_tks r (r.2.1 8 c0)).1, (r_tks r (r.2.1 8 c0)).2.1, va_up (r_tks r (r.2.1 8 c0)).2.2 2 (upd ((r_tks r (r.2.1 8 c0)).2.2 2) P (nI c0))) tl) (rfl) ?_
    refine z_aload_n C dX5_newSlab_22 rfl 1 rfl ?_
    refine z_iload_n C dX5_newSlab_23 rfl 2 rfl ?_
    refine z_callV (rest := []) C (m_X5_objectsOf l G base xs ((r_tks r (r.2.1 8 c0)).1, (r_tks r (r.2.1 8 c0)).2.1, va_up (r_tks r (r.2.1 8 c0)).2.2 2 (upd ((r_tks r (r.2.1 8 c0)).2.2 2) P (nI c0))) tl c0 hc (by show 1 ≤ (r_tks r (r.2.1 8 c0)).2.1 7 c0; rw [e7]; exact hs) (by show (r_tks r (r.2.1 8 c0)).2.1 7 c0 < 65536; rw [e7]; exact hs2) (by show (r_tks r (r.2.1 8 c0)).2.1 8 c0 ≤ 4; rw [e8]; exact ho)) ml_X5_113 kw_X5_objectsOf rfl rfl rfl rfl (by simp [Value.category]) dX5_newSlab_24 (by decide) (by decide) (by decide) (by decide) ?_
    rintro _ _ ⟨rfl, rfl⟩
    rw [show r_ob ((r_tks r (r.2.1 8 c0)).1, (r_tks r (r.2.1 8 c0)).2.1, va_up (r_tks r (r.2.1 8 c0)).2.2 2 (upd ((r_tks r (r.2.1 8 c0)).2.2 2) P (nI c0))) c0 = r_ob r c0 by show 64 * 2 ^ (r_tks r (r.2.1 8 c0)).2.1 8 c0 / (r_tks r (r.2.1 8 c0)).2.1 7 c0 = _; rw [e7, e8]; rfl]
    refine z_st (st' := [.int (nI (r_ob r c0))]) rfl ?_
    refine z_istore_n (lv' := [(3, .int (nI (r_ob r c0))), (2, .int (nI P)), (0, .ref (base + 16)), (1, .int (nI c0))]) C dX5_newSlab_27 rfl (by decide) rfl ?_
    refine z_iconst (v := 0) C dX5_newSlab_28 (by decide) ?_
    refine z_casti (y := nI 0) (rfl) ?_
    refine z_istore (lv' := [(4, .int (nI 0)), (3, .int (nI (r_ob r c0))), (2, .int (nI P)), (0, .ref (base + 16)), (1, .int (nI c0))]) C dX5_newSlab_29 (by decide) rfl ?_
    refine z_lv (lv' := [(4, .int (nI 0)), (0, .ref (base + 16)), (2, .int (nI P)), (3, .int (nI (r_ob r c0)))]) [0, 3, 2, 1] rfl ?_
    have loop : ∀ (n : Nat) (j : Nat) (f : Nat → Nat), (j ≤ r_ob r c0) → (r_ob r c0 + 1 ≤ n + j) → (r_rowf (64 * P) (r_ob r c0) (r_ob r c0 - j) j f = r_rowf (64 * P) (r_ob r c0) (r_ob r c0) 0 ((r_tks r (r.2.1 8 c0)).2.1 3)) → z_R p l e (z_rm 5 0 0) s m ([Value.ref (base + 16), .int (nI c0)] : List Value).toArray below meth c (MQ below (z_Qc G base (fun v hp' => v = some (.int (oI (r_tk r (r.2.1 8 c0)))) ∧ hp' = hpM G base xs (r_nsS r c0) tl)) ([Value.ref (base + 16), .int (nI c0)] : List Value).toArray s 0 0 (fun z => base ≤ z)) G base 5 0 0 31 [(4, .int (nI j)), (0, .ref (base + 16)), (2, .int (nI P)), (3, .int (nI (r_ob r c0)))] [] (hpM G base xs ((r_tks r (r.2.1 8 c0)).1, va_up (r_tks r (r.2.1 8 c0)).2.1 3 f, va_up (r_tks r (r.2.1 8 c0)).2.2 2 (upd ((r_tks r (r.2.1 8 c0)).2.2 2) P (nI c0))) tl) := by
      intro n
      induction n with
      | zero => intro j f hj hn0 hv; exact absurd hn0 (by omega)
      | succ n ih =>
        intro j f hj hn0 hv
        refine z_iload C dX5_newSlab_31 0 rfl ?_
        refine z_iload_n C dX5_newSlab_33 rfl 3 rfl ?_
        refine z_icmp_ge (tgt := 61) C dX5_newSlab_34 (by decide) (fun h34 => ?_) (fun h34 => ?_)
        · skip
          have hje : j = r_ob r c0 := by
            rcases Nat.lt_or_ge j (r_ob r c0) with q9 | q9
            · exact absurd h34 (nI_ge q9 (by omega))
            · omega
          refine z_aload_n C dX5_newSlab_61 rfl 1 rfl ?_
          refine z_get C fl_X5_32 dX5_newSlab_62 rfl rfl ?_
          refine z_iload_n C dX5_newSlab_65 rfl 2 rfl ?_
          refine z_iload_n C dX5_newSlab_66 rfl 3 rfl ?_
          refine z_iastK C dX5_newSlab_67 rfl (by omega) (by decide) ?_
          refine z_iload_n C dX5_newSlab_68 rfl 2 rfl ?_
          exact z_iret C hrt rfl dX5_newSlab_69 (by decide) (by decide) (⟨by rw [htk]; rfl, by unfold r_nsS; rw [htk]; show _ = hpM G base xs (r_ns1 _ _ _ _) tl; unfold r_ns1; rw [← hv, hje, Nat.sub_self]; rfl⟩)
        · skip
          have hjl : j < r_ob r c0 := by
            rcases Nat.lt_or_ge j (r_ob r c0) with q9 | q9
            · exact q9
            · exact absurd (nI_le q9 (by omega)) h34
          refine z_aload_n C dX5_newSlab_37 rfl 1 rfl ?_
          refine z_get C fl_X5_29 dX5_newSlab_38 rfl rfl ?_
          refine z_bipush (v := 64) C dX5_newSlab_41 (by decide) ?_
          refine z_iload_n C dX5_newSlab_43 rfl 2 rfl ?_
          refine z_imul C dX5_newSlab_44 ?_
          refine z_casti (y := nI (64 * P)) (pk_mul 64 P) ?_
          refine z_iload C dX5_newSlab_45 0 rfl ?_
          refine z_iadd C dX5_newSlab_47 ?_
          refine z_casti (y := nI (64 * P + j)) (nI_add _ _) ?_
          refine z_iload_n C dX5_newSlab_48 rfl 3 rfl ?_
          refine z_iconst (v := 1) C dX5_newSlab_49 (by decide) ?_
          refine z_isub C dX5_newSlab_50 ?_
          refine z_casti (y := nI (r_ob r c0 - 1)) (pk_sub (b := 1) (by omega)) ?_
          refine z_iload C dX5_newSlab_51 0 rfl ?_
          refine z_isub C dX5_newSlab_53 ?_
          refine z_casti (y := nI (r_ob r c0 - 1 - j)) (pk_sub (by omega)) ?_
          refine z_iastK C dX5_newSlab_54 rfl (by omega) (by decide) ?_
          refine z_iinc (k := 0) (v := nI (j + 1)) (lv' := [(4, .int (nI (j + 1))), (0, .ref (base + 16)), (2, .int (nI P)), (3, .int (nI (r_ob r c0)))]) C dX5_newSlab_55 rfl (nI_1 j) (by decide) rfl ?_
          refine z_goto (tgt := 31) C dX5_newSlab_58 (by decide) ?_
          refine z_lv (lv' := [(4, .int (nI (j + 1))), (0, .ref (base + 16)), (2, .int (nI P)), (3, .int (nI (r_ob r c0)))]) [0, 1, 2, 3] rfl ?_
          refine z_hp (hp' := hpM G base xs ((r_tks r (r.2.1 8 c0)).1, va_up (r_tks r (r.2.1 8 c0)).2.1 3 (va_up f (64 * P + j) (r_ob r c0 - 1 - j)), va_up (r_tks r (r.2.1 8 c0)).2.2 2 (upd ((r_tks r (r.2.1 8 c0)).2.2 2) P (nI c0))) tl) rfl ?_
          exact ih (j + 1) _ (by omega) (by omega) (by rw [← hv, show r_ob r c0 - j = (r_ob r c0 - (j + 1)) + 1 by omega]; rfl)
    refine z_hp (hp' := hpM G base xs ((r_tks r (r.2.1 8 c0)).1, va_up (r_tks r (r.2.1 8 c0)).2.1 3 ((r_tks r (r.2.1 8 c0)).2.1 3), va_up (r_tks r (r.2.1 8 c0)).2.2 2 (upd ((r_tks r (r.2.1 8 c0)).2.2 2) P (nI c0))) tl) rfl ?_
    exact loop (r_ob r c0 + 1) 0 _ (by omega) (by omega) rfl

set_option maxHeartbeats 4000000 in
set_option maxRecDepth 100000 in
theorem m_X5_take (l : Launch) (G : z_G) (base : Nat) (xs : Nat → va_E) (r : r_T) (tl : List va_E) (hfo : ∀ p, r.2.1 1 p < 256) (hoo : ∀ p, r.2.1 2 p ≤ 6) (hal : ∀ p, p < 256 → r_free r p = true → p + 2 ^ r.2.1 2 p ≤ 256) (c0 : Nat) (hc : c0 < 12) (hs : 1 ≤ r.2.1 7 c0) (hs2 : r.2.1 7 c0 < 65536) (ho : r.2.1 8 c0 ≤ 4) (hob : r_ob r c0 ≤ 64) (hst : ¬ r.1 0 = 0) (hic : r_isc r (nI c0) = true) (hn : ∀ p, r.2.1 4 p ≤ 64) (hlv : ∀ p, p < 256 → r_slab r p c0 = true → r.2.1 4 p ≤ r_ob r c0) (hem : 0 ≤ r.2.2 3 c0 → ∃ P, P < 256 ∧ r.2.2 3 c0 = nI P ∧ 1 ≤ r.2.1 4 P) (hob1 : 1 ≤ r_ob r c0) : z_M l G base yX5_take cX5_take 4 (some .int) 6 0 0 [.ref (base + 16), .int (nI c0)] (hpM G base xs r tl) (fun v hp' => v = some (.int (oI (r_toO r c0))) ∧ hp' = hpM G base xs (r_toS r c0) tl) := by
  refine z_M.of (lv0 := [(0, .ref (base + 16)), (1, .int (nI c0))]) (by decide) (Nat.le_of_ble_eq_true rfl) rfl ?_
  intro p e s m below meth c hmn hrt C
  have fin : ∀ (P : Nat) (t : r_T), (r_toP r c0 = some P) → (r_to1 r c0 = t) → (P < 256) → (1 ≤ t.2.1 4 P) → (t.2.1 4 P ≤ 64) → (t.2.1 7 = r.2.1 7) → z_R p l e (z_rm 6 0 0) s m ([Value.ref (base + 16), .int (nI c0)] : List Value).toArray below meth c (MQ below (z_Qc G base (fun v hp' => v = some (.int (oI (r_toO r c0))) ∧ hp' = hpM G base xs (r_toS r c0) tl)) ([Value.ref (base + 16), .int (nI c0)] : List Value).toArray s 0 0 (fun z => base ≤ z)) G base 4 0 0 112 [(2, .int (nI P)), (0, .ref (base + 16)), (1, .int (nI c0))] [] (hpM G base xs t tl) := by
    intro P t htP ht1 hP hn1 hn2 e7
    refine z_aload_n C dX5_take_112 rfl 1 rfl ?_
    refine z_get C fl_X5_32 dX5_take_113 rfl rfl ?_
    refine z_iload_n C dX5_take_116 rfl 0 rfl ?_
    refine z_dup2 C dX5_take_117 rfl rfl ?_
    refine z_ialdK C dX5_take_118 rfl (by omega) (by decide) ?_
    refine z_iconst (v := 1) C dX5_take_119 (by decide) ?_
    refine z_isub C dX5_take_120 ?_
    refine z_casti (y := nI (t.2.1 4 P - 1)) (pk_sub (b := 1) hn1) ?_
    refine z_iastK C dX5_take_121 rfl (by omega) (by decide) ?_
    refine z_bipush (v := 64) C dX5_take_122 (by decide) ?_
    refine z_iload_n C dX5_take_124 rfl 0 rfl ?_
    refine z_imul C dX5_take_125 ?_
    refine z_casti (y := nI (64 * P)) (pk_mul 64 P) ?_
    refine z_aload_n C dX5_take_126 rfl 1 rfl ?_
    refine z_get C fl_X5_41 dX5_take_127 rfl rfl ?_
    refine z_iload_n C dX5_take_130 rfl 2 rfl ?_
    refine z_ialdK C dX5_take_131 rfl (by omega) (by decide) ?_
    refine z_aload_n C dX5_take_132 rfl 1 rfl ?_
    refine z_get C fl_X5_29 dX5_take_133 rfl rfl ?_
    refine z_bipush (v := 64) C dX5_take_136 (by decide) ?_
    refine z_iload_n C dX5_take_138 rfl 0 rfl ?_
    refine z_imul C dX5_take_139 ?_
    refine z_casti (y := nI (64 * P)) (pk_mul 64 P) ?_
    refine z_aload_n C dX5_take_140 rfl 1 rfl ?_
    refine z_get C fl_X5_32 dX5_take_141 rfl rfl ?_
    refine z_iload_n C dX5_take_144 rfl 0 rfl ?_
    refine z_ialdK C dX5_take_145 rfl (by omega) (by decide) ?_
    refine z_casti (y := nI (t.2.1 4 P - 1)) (by rw [va_up_self]) ?_
    refine z_iadd C dX5_take_146 ?_
    refine z_casti (y := nI (64 * P + (t.2.1 4 P - 1))) (nI_add _ _) ?_
    refine z_ialdK C dX5_take_147 rfl (by omega) (by decide) ?_
    refine z_imul C dX5_take_148 ?_
    refine z_casti (y := nI (t.2.1 7 c0 * t.2.1 3 (64 * P + (t.2.1 4 P - 1)))) (pk_mul _ _) ?_
    refine z_iadd C dX5_take_149 ?_
    refine z_casti (y := nI (64 * P + t.2.1 7 c0 * t.2.1 3 (64 * P + (t.2.1 4 P - 1)))) (nI_add _ _) ?_
    exact z_iret C hrt rfl dX5_take_150 (by decide) (by decide) (⟨by unfold r_toO; rw [htP, ht1, e7]; rfl, by unfold r_toS; rw [htP, ht1]; rfl⟩)
  refine z_aload_n C dX5_take_0 rfl 0 rfl ?_
  refine z_get C fl_X5_58 dX5_take_1 rfl rfl ?_
  refine z_if_eq (tgt := 15) C dX5_take_4 (by decide) (fun h4 => absurd h4 (hst)) (fun h4 => ?_)
  refine z_aload_n C dX5_take_7 rfl 0 rfl ?_
  refine z_iload_n C dX5_take_8 rfl 1 rfl ?_
  refine z_callV (rest := []) C (m_X5_isCache l G base xs r tl (nI c0)) ml_X5_116 kw_X5_isCache rfl rfl rfl rfl (by simp [Value.category]) dX5_take_9 (by decide) (by decide) (by decide) (by decide) ?_
  rintro _ _ ⟨rfl, rfl⟩
  refine z_st (st' := [.int ((bI (r_isc r (nI c0))))]) rfl ?_
  refine z_if_ne (tgt := 17) C dX5_take_12 (by decide) (fun h12 => ?_) (fun h12 => absurd h12 (fun q => by rw [bI_ff q] at hic; exact Bool.noConfusion hic))
  refine z_iconst (v := -1) C dX5_take_17 (by decide) ?_
  refine z_casti (y := oI none) (rfl) ?_
  refine z_istore_n (lv' := [(2, .int (oI none)), (0, .ref (base + 16)), (1, .int (nI c0))]) C dX5_take_18 rfl (by decide) rfl ?_
  refine z_sipush (v := 255) C dX5_take_19 (by decide) ?_
  refine z_casti (y := (nI 256 - 1)) (by decide) ?_
  refine z_istore_n (lv' := [(3, .int ((nI 256 - 1))), (2, .int (oI none)), (0, .ref (base + 16)), (1, .int (nI c0))]) C dX5_take_22 rfl (by decide) rfl ?_
  refine z_lv (lv' := [(3, .int ((nI 256 - 1))), (2, .int (oI none)), (0, .ref (base + 16)), (1, .int (nI c0))]) [0, 1, 2, 3] rfl ?_
  have loop : ∀ (n : Nat) (y : Nat) (b : Option Nat), (y ≤ 256) → (y + 1 ≤ n) → (r_low (fun p => decide (r_slab r p c0 = true ∧ 0 < r.2.1 4 p ∧ 0 < r_ob r c0 - r.2.1 4 p)) y b = r_part r c0) → z_R p l e (z_rm 6 0 0) s m ([Value.ref (base + 16), .int (nI c0)] : List Value).toArray below meth c (MQ below (z_Qc G base (fun v hp' => v = some (.int (oI (r_toO r c0))) ∧ hp' = hpM G base xs (r_toS r c0) tl)) ([Value.ref (base + 16), .int (nI c0)] : List Value).toArray s 0 0 (fun z => base ≤ z)) G base 4 0 0 23 [(3, .int ((nI y - 1))), (2, .int (oI b)), (0, .ref (base + 16)), (1, .int (nI c0))] [] (hpM G base xs r tl) := by
    intro n
    induction n with
    | zero => intro y b hy hn0 hv; exact absurd hn0 (by omega)
    | succ n ih =>
      intro y b hy hn0 hv
      refine z_iload_n C dX5_take_23 rfl 0 rfl ?_
      refine z_if_lt (tgt := 65) C dX5_take_24 (by decide) (fun h24 => ?_) (fun h24 => ?_)
      · skip
        have hy0 : y = 0 := by
          rcases Nat.eq_zero_or_pos y with q9 | q9
          · exact q9
          · exact absurd h24 (by rw [show nI y - 1 = nI (y - 1) from pk_sub (b := 1) q9]; exact nI_pos (by omega))
        subst hy0
        have hb0 : b = r_part r c0 := hv
        rcases opt_cases (r_part r c0) with hpt | ⟨P, hpt⟩
        · skip
          refine z_lvq (lv' := [(3, .int (nI 0 - 1)), (2, .int (-1)), (0, .ref (base + 16)), (1, .int (nI c0))]) (by rw [hb0, hpt]; rfl) ?_
          refine z_iload_n C dX5_take_65 rfl 1 rfl ?_
          refine z_if_ge (tgt := 92) C dX5_take_66 (by decide) (fun h66 => absurd h66 (by decide)) (fun h66 => ?_)
          refine z_aload_n C dX5_take_69 rfl 2 rfl ?_
          refine z_get C fl_X5_47 dX5_take_70 rfl rfl ?_
          refine z_iload_n C dX5_take_73 rfl 3 rfl ?_
          refine z_ialdN C dX5_take_74 rfl (by omega) (by decide) ?_
          refine z_if_lt (tgt := 92) C dX5_take_75 (by decide) (fun h75 => ?_) (fun h75 => ?_)
          · skip
            have hne : ¬ 0 ≤ r.2.2 3 c0 := Int32.not_le.mpr h75
            refine z_iload_n C dX5_take_92 rfl 1 rfl ?_
            refine z_if_ge (tgt := 104) C dX5_take_93 (by decide) (fun h93 => absurd h93 (by decide)) (fun h93 => ?_)
            refine z_aload_n C dX5_take_96 rfl 2 rfl ?_
            refine z_iload_n C dX5_take_97 rfl 3 rfl ?_
            refine z_callV (rest := []) C (m_X5_newSlab l G base xs r tl hfo hoo hal c0 hc hs hs2 ho hob) ml_X5_125 kw_X5_newSlab rfl rfl rfl rfl (by simp [Value.category]) dX5_take_98 (by decide) (by decide) (by decide) (by decide) ?_
            rintro _ _ ⟨rfl, rfl⟩
            refine z_st (st' := [.int (oI (r_tk r (r.2.1 8 c0)))]) rfl ?_
            refine z_goto (tgt := 105) C dX5_take_101 (by decide) ?_
            rcases opt_cases (r_tk r (r.2.1 8 c0)) with htk | ⟨P, htk⟩
            · skip
              refine z_casti (y := -1) (by rw [htk]; rfl) ?_
              refine z_istore_n (lv' := [(2, .int ((-1 : Int32))), (3, .int ((nI 0 - 1))), (0, .ref (base + 16)), (1, .int (nI c0))]) C dX5_take_105 rfl (by decide) rfl ?_
              refine z_iload_n C dX5_take_106 rfl 0 rfl ?_
              refine z_if_ge (tgt := 112) C dX5_take_107 (by decide) (fun h107 => absurd h107 (by decide)) (fun h107 => ?_)
              refine z_iconst (v := -1) C dX5_take_110 (by decide) ?_
              exact z_iret C hrt rfl dX5_take_111 (by decide) (by decide) (⟨by unfold r_toO; rw [r_toP_n hpt hne, htk]; rfl, by unfold r_toS; rw [r_toP_n hpt hne, htk]; show _ = hpM G base xs (r_to1 r c0) tl; unfold r_to1; rw [hpt]; show _ = hpM G base xs (if _ then _ else _) tl; rw [if_neg hne]⟩)
            · skip
              refine z_casti (y := nI P) (by rw [htk]; rfl) ?_
              have hP : P < 256 := r_tk_lt htk
              refine z_istore_n (lv' := [(2, .int (nI P)), (3, .int ((nI 0 - 1))), (0, .ref (base + 16)), (1, .int (nI c0))]) C dX5_take_105 rfl (by decide) rfl ?_
              refine z_iload_n C dX5_take_106 rfl 0 rfl ?_
              refine z_if_ge (tgt := 112) C dX5_take_107 (by decide) (fun h107 => ?_) (fun h107 => absurd h107 (fun q => q (nI_pos' (by omega))))
              refine z_lv (lv' := [(2, .int (nI P)), (0, .ref (base + 16)), (1, .int (nI c0))]) [0, 2, 3] rfl ?_
              exact fin P (r_nsS r c0) (by rw [r_toP_n hpt hne]; exact htk) (by unfold r_to1; rw [hpt]; exact if_neg hne) hP (by rw [r_nsS_4 htk]; exact hob1) (by rw [r_nsS_4 htk]; exact hob) (r_nsS_7 r c0)
          · skip
            have hne : 0 ≤ r.2.2 3 c0 := Int32.not_lt.mp h75
            obtain ⟨P, hP, heP, hn1⟩ := hem hne
            refine z_aload_n C dX5_take_78 rfl 2 rfl ?_
            refine z_get C fl_X5_47 dX5_take_79 rfl rfl ?_
            refine z_iload_n C dX5_take_82 rfl 3 rfl ?_
            refine z_ialdN C dX5_take_83 rfl (by omega) (by decide) ?_
            refine z_casti (y := nI P) (heP) ?_
            refine z_istore_n (lv' := [(2, .int (nI P)), (3, .int ((nI 0 - 1))), (0, .ref (base + 16)), (1, .int (nI c0))]) C dX5_take_84 rfl (by decide) rfl ?_
            refine z_aload_n C dX5_take_85 rfl 2 rfl ?_
            refine z_get C fl_X5_47 dX5_take_86 rfl rfl ?_
            refine z_iload_n C dX5_take_89 rfl 3 rfl ?_
            refine z_iconst (v := -1) C dX5_take_90 (by decide) ?_
            refine z_iastN C dX5_take_91 rfl (by omega) (by decide) ?_
            refine z_iload_n C dX5_take_92 rfl 0 rfl ?_
            refine z_if_ge (tgt := 104) C dX5_take_93 (by decide) (fun h93 => ?_) (fun h93 => absurd h93 (fun q => q (nI_pos' (by omega))))
            refine z_iload_n C dX5_take_104 rfl 0 rfl ?_
            refine z_istore_n (lv' := [(2, .int (nI P)), (3, .int ((nI 0 - 1))), (0, .ref (base + 16)), (1, .int (nI c0))]) C dX5_take_105 rfl (by decide) rfl ?_
            refine z_iload_n C dX5_take_106 rfl 0 rfl ?_
            refine z_if_ge (tgt := 112) C dX5_take_107 (by decide) (fun h107 => ?_) (fun h107 => absurd h107 (fun q => q (nI_pos' (by omega))))
            refine z_lv (lv' := [(2, .int (nI P)), (0, .ref (base + 16)), (1, .int (nI c0))]) [0, 2, 3] rfl ?_
            refine z_hp (hp' := hpM G base xs (r.1, r.2.1, va_up r.2.2 3 (upd (r.2.2 3) c0 (-1))) tl) rfl ?_
            exact fin P (r.1, r.2.1, va_up r.2.2 3 (upd (r.2.2 3) c0 (-1))) (by unfold r_toP; rw [hpt]; show (if _ then _ else _) = _; rw [if_pos hne, heP, cl_nI hP]) (by unfold r_to1; rw [hpt]; exact if_pos hne) hP hn1 (hn P) rfl
        · skip
          refine z_lvq (lv' := [(3, .int (nI 0 - 1)), (2, .int (nI P)), (0, .ref (base + 16)), (1, .int (nI c0))]) (by rw [hb0, hpt]; rfl) ?_
          have hPs := r_part_some hpt
          refine z_iload_n C dX5_take_65 rfl 1 rfl ?_
          refine z_if_ge (tgt := 92) C dX5_take_66 (by decide) (fun h66 => ?_) (fun h66 => absurd h66 (fun q => q (nI_pos' (by omega))))
          refine z_iload_n C dX5_take_92 rfl 1 rfl ?_
          refine z_if_ge (tgt := 104) C dX5_take_93 (by decide) (fun h93 => ?_) (fun h93 => absurd h93 (fun q => q (nI_pos' (by omega))))
          refine z_iload_n C dX5_take_104 rfl 1 rfl ?_
          refine z_istore_n (lv' := [(2, .int (nI P)), (3, .int ((nI 0 - 1))), (0, .ref (base + 16)), (1, .int (nI c0))]) C dX5_take_105 rfl (by decide) rfl ?_
          refine z_iload_n C dX5_take_106 rfl 0 rfl ?_
          refine z_if_ge (tgt := 112) C dX5_take_107 (by decide) (fun h107 => ?_) (fun h107 => absurd h107 (fun q => q (nI_pos' (by omega))))
          refine z_lv (lv' := [(2, .int (nI P)), (0, .ref (base + 16)), (1, .int (nI c0))]) [0, 2, 3] rfl ?_
          exact fin P r (by unfold r_toP; rw [hpt]) (by unfold r_to1; rw [hpt]) hPs.1 hPs.2.2.1 (hn P) rfl
      · skip
        obtain ⟨y1, rfl⟩ : ∃ y1, y = y1 + 1 := by
          cases y with
          | zero => exact absurd (by decide) h24
          | succ y1 => exact ⟨y1, rfl⟩
        refine z_lvq (lv' := [(3, .int (nI y1)), (2, .int (oI b)), (0, .ref (base + 16)), (1, .int (nI c0))]) (by rw [show nI (y1 + 1) - 1 = nI y1 from nI_pred _]) ?_
        refine z_aload_n C dX5_take_27 rfl 2 rfl ?_
        refine z_iload_n C dX5_take_28 rfl 0 rfl ?_
        refine z_iload_n C dX5_take_29 rfl 3 rfl ?_
        refine z_callV (rest := []) C (m_X5_isSlab l G base xs r tl hfo y1 c0 (by omega)) ml_X5_119 kw_X5_isSlab rfl rfl rfl rfl (by simp [Value.category]) dX5_take_30 (by decide) (by decide) (by decide) (by decide) ?_
        rintro _ _ ⟨rfl, rfl⟩
        refine z_st (st' := [.int ((bI (r_slab r y1 c0)))]) rfl ?_
        refine z_if_eq (tgt := 57) C dX5_take_33 (by decide) (fun h33 => ?_) (fun h33 => ?_)
        · skip
          refine z_iload_n C dX5_take_57 rfl 1 rfl ?_
          refine z_casti (y := oI (if decide (r_slab r y1 c0 = true ∧ 0 < r.2.1 4 y1 ∧ 0 < r_ob r c0 - r.2.1 4 y1) then some y1 else b)) (by first | (rw [if_pos (decide_eq_true ⟨bI_nt h33, nI_gt0 (by have := hn y1; omega) h42, nI_gt0 (by omega) h50⟩)]; rfl) | rw [if_neg (by rw [decide_eq_true_iff]; first | (rw [bI_ff h33]; exact fun q => Bool.noConfusion q.1) | exact fun q => absurd h42 (nI_nle q.2.1 (by have := hn y1; omega)) | exact fun q => absurd h50 (nI_nle q.2.2 (by omega)))]) ?_
          refine z_istore_n (lv' := [(2, .int (oI (if decide (r_slab r y1 c0 = true ∧ 0 < r.2.1 4 y1 ∧ 0 < r_ob r c0 - r.2.1 4 y1) then some y1 else b))), (3, .int (nI y1)), (0, .ref (base + 16)), (1, .int (nI c0))]) C dX5_take_58 rfl (by decide) rfl ?_
          refine z_iinc (k := 1) (v := (nI y1 - 1)) (lv' := [(3, .int ((nI y1 - 1))), (2, .int (oI (if decide (r_slab r y1 c0 = true ∧ 0 < r.2.1 4 y1 ∧ 0 < r_ob r c0 - r.2.1 4 y1) then some y1 else b))), (0, .ref (base + 16)), (1, .int (nI c0))]) C dX5_take_59 rfl (add_m1 _) (by decide) rfl ?_
          refine z_goto (tgt := 23) C dX5_take_62 (by decide) ?_
          refine z_lv (lv' := [(3, .int ((nI y1 - 1))), (2, .int (oI (if decide (r_slab r y1 c0 = true ∧ 0 < r.2.1 4 y1 ∧ 0 < r_ob r c0 - r.2.1 4 y1) then some y1 else b))), (0, .ref (base + 16)), (1, .int (nI c0))]) [0, 1, 2, 3] rfl ?_
          exact ih y1 _ (by omega) (by omega) (by rw [← hv]; rfl)
        · skip
          refine z_aload_n C dX5_take_36 rfl 2 rfl ?_
          refine z_get C fl_X5_32 dX5_take_37 rfl rfl ?_
          refine z_iload_n C dX5_take_40 rfl 0 rfl ?_
          refine z_ialdK C dX5_take_41 rfl (by omega) (by decide) ?_
          refine z_if_le (tgt := 57) C dX5_take_42 (by decide) (fun h42 => ?_) (fun h42 => ?_)
          · skip
            refine z_iload_n C dX5_take_57 rfl 1 rfl ?_
            refine z_casti (y := oI (if decide (r_slab r y1 c0 = true ∧ 0 < r.2.1 4 y1 ∧ 0 < r_ob r c0 - r.2.1 4 y1) then some y1 else b)) (by first | (rw [if_pos (decide_eq_true ⟨bI_nt h33, nI_gt0 (by have := hn y1; omega) h42, nI_gt0 (by omega) h50⟩)]; rfl) | rw [if_neg (by rw [decide_eq_true_iff]; first | (rw [bI_ff h33]; exact fun q => Bool.noConfusion q.1) | exact fun q => absurd h42 (nI_nle q.2.1 (by have := hn y1; omega)) | exact fun q => absurd h50 (nI_nle q.2.2 (by omega)))]) ?_
            refine z_istore_n (lv' := [(2, .int (oI (if decide (r_slab r y1 c0 = true ∧ 0 < r.2.1 4 y1 ∧ 0 < r_ob r c0 - r.2.1 4 y1) then some y1 else b))), (3, .int (nI y1)), (0, .ref (base + 16)), (1, .int (nI c0))]) C dX5_take_58 rfl (by decide) rfl ?_
            refine z_iinc (k := 1) (v := (nI y1 - 1)) (lv' := [(3, .int ((nI y1 - 1))), (2, .int (oI (if decide (r_slab r y1 c0 = true ∧ 0 < r.2.1 4 y1 ∧ 0 < r_ob r c0 - r.2.1 4 y1) then some y1 else b))), (0, .ref (base + 16)), (1, .int (nI c0))]) C dX5_take_59 rfl (add_m1 _) (by decide) rfl ?_
            refine z_goto (tgt := 23) C dX5_take_62 (by decide) ?_
            refine z_lv (lv' := [(3, .int ((nI y1 - 1))), (2, .int (oI (if decide (r_slab r y1 c0 = true ∧ 0 < r.2.1 4 y1 ∧ 0 < r_ob r c0 - r.2.1 4 y1) then some y1 else b))), (0, .ref (base + 16)), (1, .int (nI c0))]) [0, 1, 2, 3] rfl ?_
            exact ih y1 _ (by omega) (by omega) (by rw [← hv]; rfl)
          · skip
            refine z_aload_n C dX5_take_45 rfl 2 rfl ?_
            refine z_iload_n C dX5_take_46 rfl 0 rfl ?_
            refine z_callV (rest := []) C (m_X5_liveOf l G base xs r tl y1 c0 (by omega) (of_decide_eq_true (bI_nt h33)).2.2 hc hs hs2 ho (hlv y1 (by omega) (bI_nt h33))) ml_X5_122 kw_X5_liveOf rfl rfl rfl rfl (by simp [Value.category]) dX5_take_47 (by decide) (by decide) (by decide) (by decide) ?_
            rintro _ _ ⟨rfl, rfl⟩
            refine z_st (st' := [.int (nI (r_ob r c0 - r.2.1 4 y1))]) rfl ?_
            refine z_if_le (tgt := 57) C dX5_take_50 (by decide) (fun h50 => ?_) (fun h50 => ?_)
            · skip
              refine z_iload_n C dX5_take_57 rfl 1 rfl ?_
              refine z_casti (y := oI (if decide (r_slab r y1 c0 = true ∧ 0 < r.2.1 4 y1 ∧ 0 < r_ob r c0 - r.2.1 4 y1) then some y1 else b)) (by first | (rw [if_pos (decide_eq_true ⟨bI_nt h33, nI_gt0 (by have := hn y1; omega) h42, nI_gt0 (by omega) h50⟩)]; rfl) | rw [if_neg (by rw [decide_eq_true_iff]; first | (rw [bI_ff h33]; exact fun q => Bool.noConfusion q.1) | exact fun q => absurd h42 (nI_nle q.2.1 (by have := hn y1; omega)) | exact fun q => absurd h50 (nI_nle q.2.2 (by omega)))]) ?_
              refine z_istore_n (lv' := [(2, .int (oI (if decide (r_slab r y1 c0 = true ∧ 0 < r.2.1 4 y1 ∧ 0 < r_ob r c0 - r.2.1 4 y1) then some y1 else b))), (3, .int (nI y1)), (0, .ref (base + 16)), (1, .int (nI c0))]) C dX5_take_58 rfl (by decide) rfl ?_
              refine z_iinc (k := 1) (v := (nI y1 - 1)) (lv' := [(3, .int ((nI y1 - 1))), (2, .int (oI (if decide (r_slab r y1 c0 = true ∧ 0 < r.2.1 4 y1 ∧ 0 < r_ob r c0 - r.2.1 4 y1) then some y1 else b))), (0, .ref (base + 16)), (1, .int (nI c0))]) C dX5_take_59 rfl (add_m1 _) (by decide) rfl ?_
              refine z_goto (tgt := 23) C dX5_take_62 (by decide) ?_
              refine z_lv (lv' := [(3, .int ((nI y1 - 1))), (2, .int (oI (if decide (r_slab r y1 c0 = true ∧ 0 < r.2.1 4 y1 ∧ 0 < r_ob r c0 - r.2.1 4 y1) then some y1 else b))), (0, .ref (base + 16)), (1, .int (nI c0))]) [0, 1, 2, 3] rfl ?_
              exact ih y1 _ (by omega) (by omega) (by rw [← hv]; rfl)
            · skip
              refine z_iload_n C dX5_take_53 rfl 0 rfl ?_
              refine z_goto (tgt := 58) C dX5_take_54 (by decide) ?_
              refine z_casti (y := oI (if decide (r_slab r y1 c0 = true ∧ 0 < r.2.1 4 y1 ∧ 0 < r_ob r c0 - r.2.1 4 y1) then some y1 else b)) (by first | (rw [if_pos (decide_eq_true ⟨bI_nt h33, nI_gt0 (by have := hn y1; omega) h42, nI_gt0 (by omega) h50⟩)]; rfl) | rw [if_neg (by rw [decide_eq_true_iff]; first | (rw [bI_ff h33]; exact fun q => Bool.noConfusion q.1) | exact fun q => absurd h42 (nI_nle q.2.1 (by have := hn y1; omega)) | exact fun q => absurd h50 (nI_nle q.2.2 (by omega)))]) ?_
              refine z_istore_n (lv' := [(2, .int (oI (if decide (r_slab r y1 c0 = true ∧ 0 < r.2.1 4 y1 ∧ 0 < r_ob r c0 - r.2.1 4 y1) then some y1 else b))), (3, .int (nI y1)), (0, .ref (base + 16)), (1, .int (nI c0))]) C dX5_take_58 rfl (by decide) rfl ?_
              refine z_iinc (k := 1) (v := (nI y1 - 1)) (lv' := [(3, .int ((nI y1 - 1))), (2, .int (oI (if decide (r_slab r y1 c0 = true ∧ 0 < r.2.1 4 y1 ∧ 0 < r_ob r c0 - r.2.1 4 y1) then some y1 else b))), (0, .ref (base + 16)), (1, .int (nI c0))]) C dX5_take_59 rfl (add_m1 _) (by decide) rfl ?_
              refine z_goto (tgt := 23) C dX5_take_62 (by decide) ?_
              refine z_lv (lv' := [(3, .int ((nI y1 - 1))), (2, .int (oI (if decide (r_slab r y1 c0 = true ∧ 0 < r.2.1 4 y1 ∧ 0 < r_ob r c0 - r.2.1 4 y1) then some y1 else b))), (0, .ref (base + 16)), (1, .int (nI c0))]) [0, 1, 2, 3] rfl ?_
              exact ih y1 _ (by omega) (by omega) (by rw [← hv]; rfl)
  exact loop 257 256 none (by omega) (by omega) rfl
