set_option maxHeartbeats 4000000 in
set_option maxRecDepth 100000 in
theorem m_X5_faultOfPage (l : Launch) (G : z_G) (base : Nat) (xs : Nat → va_E) (r : r_T) (tl : List va_E) (hfo : ∀ p, r.2.1 1 p < 256) (x : Int32) : z_M l G base yX5_faultOfPage cX5_faultOfPage 2 (some .int) 2 0 0 [.ref (base + 16), .int (x)] (hpM G base xs r tl) (fun v hp' => v = some (.int (r_fp r (x))) ∧ hp' = hpM G base xs r tl) := by
  refine z_M.of (lv0 := [(0, .ref (base + 16)), (1, .int (x))]) (by decide) (Nat.le_of_ble_eq_true rfl) rfl ?_
  intro p e s m below meth c hmn hrt C
  refine z_aload_n C dX5_faultOfPage_0 rfl 0 rfl ?_
  refine z_iload_n C dX5_faultOfPage_1 rfl 1 rfl ?_
  refine z_callV (rest := []) C (m_X5_isFirst_any l G base xs r tl hfo (x) (fun z hz => m_X5_isFirst l G base xs r tl hfo z hz) (fun h => m_X5_isFirst_out l G base xs r tl (x) h)) ml_X5_78 kw_X5_isFirst rfl rfl rfl rfl (by simp [Value.category]) dX5_faultOfPage_2 (by decide) (by decide) (by decide) (by decide) ?_
  rintro _ _ ⟨rfl, rfl⟩
  refine z_st (st' := [.int ((bI (r_fi r (x))))]) rfl ?_
  refine z_if_ne (tgt := 11) C dX5_faultOfPage_5 (by decide) (fun h5 => ?_) (fun h5 => ?_)
  · skip
    obtain ⟨z, hz, rfl, hfs⟩ := r_fi_true (bI_nt h5)
    refine z_aload_n C dX5_faultOfPage_11 rfl 0 rfl ?_
    refine z_get C fl_X5_23 dX5_faultOfPage_12 rfl rfl ?_
    refine z_iload_n C dX5_faultOfPage_15 rfl 1 rfl ?_
    refine z_zaldN C dX5_faultOfPage_16 rfl (by omega) (by decide) ?_
    refine z_if_ne (tgt := 25) C dX5_faultOfPage_17 (by decide) (fun h17 => ?_) (fun h17 => ?_)
    · skip
      refine z_aload_n C dX5_faultOfPage_25 rfl 0 rfl ?_
      refine z_get C fl_X5_26 dX5_faultOfPage_26 rfl rfl ?_
      refine z_iload_n C dX5_faultOfPage_29 rfl 1 rfl ?_
      refine z_ialdN C dX5_faultOfPage_30 rfl (by omega) (by decide) ?_
      refine z_if_lt (tgt := 39) C dX5_faultOfPage_31 (by decide) (fun h31 => ?_) (fun h31 => ?_)
      · skip
        refine z_iconst (v := 0) C dX5_faultOfPage_39 (by decide) ?_
        exact z_iret C hrt rfl dX5_faultOfPage_40 (by decide) (by decide) (⟨by unfold r_fp; rw [if_pos (bI_nt h5), cl_nI hz]; first | rw [if_pos h17] | (rw [if_neg h17]; first | rw [if_neg (Int32.not_le.mpr h31)] | rw [if_pos (Int32.not_lt.mp h31)]), rfl⟩)
      · skip
        refine z_bipush (v := -2) C dX5_faultOfPage_34 (by decide) ?_
        refine z_goto (tgt := 40) C dX5_faultOfPage_36 (by decide) ?_
        exact z_iret C hrt rfl dX5_faultOfPage_40 (by decide) (by decide) (⟨by unfold r_fp; rw [if_pos (bI_nt h5), cl_nI hz]; first | rw [if_pos h17] | (rw [if_neg h17]; first | rw [if_neg (Int32.not_le.mpr h31)] | rw [if_pos (Int32.not_lt.mp h31)]), rfl⟩)
    · skip
      refine z_bipush (v := -3) C dX5_faultOfPage_20 (by decide) ?_
      refine z_goto (tgt := 40) C dX5_faultOfPage_22 (by decide) ?_
      exact z_iret C hrt rfl dX5_faultOfPage_40 (by decide) (by decide) (⟨by unfold r_fp; rw [if_pos (bI_nt h5), cl_nI hz]; first | rw [if_pos h17] | (rw [if_neg h17]; first | rw [if_neg (Int32.not_le.mpr h31)] | rw [if_pos (Int32.not_lt.mp h31)]), rfl⟩)
  · skip
    refine z_bipush (v := -2) C dX5_faultOfPage_8 (by decide) ?_
    exact z_iret C hrt rfl dX5_faultOfPage_10 (by decide) (by decide) (⟨by unfold r_fp; rw [if_neg (by rw [bI_ff h5]; exact Bool.false_ne_true)], rfl⟩)

set_option maxHeartbeats 4000000 in
set_option maxRecDepth 100000 in
theorem m_X5_freePages (l : Launch) (G : z_G) (base : Nat) (xs : Nat → va_E) (r : r_T) (tl : List va_E) (hfo : ∀ p, r.2.1 1 p < 256) (hoo : ∀ p, r.2.1 2 p ≤ 6) (hfa : ∀ p, p < 256 → r_first r p = true → p % 2 ^ r.2.1 2 p = 0) (x : Int32) : z_M l G base yX5_freePages cX5_freePages 3 (some .int) 4 0 0 [.ref (base + 16), .int (x)] (hpM G base xs r tl) (fun v hp' => v = some (.int (r_fpA r (x))) ∧ hp' = hpM G base xs (r_fpS r (x)) tl) := by
  refine z_M.of (lv0 := [(0, .ref (base + 16)), (1, .int (x))]) (by decide) (Nat.le_of_ble_eq_true rfl) rfl ?_
  intro p e s m below meth c hmn hrt C
  refine z_aload_n C dX5_freePages_0 rfl 0 rfl ?_
  refine z_iload_n C dX5_freePages_1 rfl 1 rfl ?_
  refine z_callV (rest := []) C (m_X5_faultOfPage l G base xs r tl hfo x) ml_X5_104 kw_X5_faultOfPage rfl rfl rfl rfl (by simp [Value.category]) dX5_freePages_2 (by decide) (by decide) (by decide) (by decide) ?_
  rintro _ _ ⟨rfl, rfl⟩
  refine z_st (st' := [.int (r_fp r (x))]) rfl ?_
  rcases r_fp_cases r x with h9 | h9 | ⟨h9, z, hz, rfl, hfs, htk, hcc⟩
  · skip
    refine z_casti h9 ?_
    refine z_istore_n (lv' := [(2, .int ((-2 : Int32))), (0, .ref (base + 16)), (1, .int (x))]) C dX5_freePages_5 rfl (by decide) rfl ?_
    refine z_iload_n C dX5_freePages_6 rfl 0 rfl ?_
    refine z_if_ge (tgt := 14) C dX5_freePages_7 (by decide) (fun h7 => absurd h7 (by decide)) (fun h7 => ?_)
    refine z_iload_n C dX5_freePages_10 rfl 0 rfl ?_
    refine z_goto (tgt := 19) C dX5_freePages_11 (by decide) ?_
    exact z_iret C hrt rfl dX5_freePages_19 (by decide) (by decide) (by first | exact ⟨by unfold r_fpA; rw [if_neg (by rw [h9]; decide), h9], by unfold r_fpS; rw [if_neg (by rw [h9]; decide)]⟩ | exact ⟨by unfold r_fpA; rw [if_pos h9, cl_nI hz], by unfold r_fpS; rw [if_pos h9, cl_nI hz]⟩)
  · skip
    refine z_casti h9 ?_
    refine z_istore_n (lv' := [(2, .int ((-3 : Int32))), (0, .ref (base + 16)), (1, .int (x))]) C dX5_freePages_5 rfl (by decide) rfl ?_
    refine z_iload_n C dX5_freePages_6 rfl 0 rfl ?_
    refine z_if_ge (tgt := 14) C dX5_freePages_7 (by decide) (fun h7 => absurd h7 (by decide)) (fun h7 => ?_)
    refine z_iload_n C dX5_freePages_10 rfl 0 rfl ?_
    refine z_goto (tgt := 19) C dX5_freePages_11 (by decide) ?_
    exact z_iret C hrt rfl dX5_freePages_19 (by decide) (by decide) (by first | exact ⟨by unfold r_fpA; rw [if_neg (by rw [h9]; decide), h9], by unfold r_fpS; rw [if_neg (by rw [h9]; decide)]⟩ | exact ⟨by unfold r_fpA; rw [if_pos h9, cl_nI hz], by unfold r_fpS; rw [if_pos h9, cl_nI hz]⟩)
  · skip
    refine z_casti h9 ?_
    refine z_istore_n (lv' := [(2, .int ((0 : Int32))), (0, .ref (base + 16)), (1, .int (nI z))]) C dX5_freePages_5 rfl (by decide) rfl ?_
    refine z_iload_n C dX5_freePages_6 rfl 0 rfl ?_
    refine z_if_ge (tgt := 14) C dX5_freePages_7 (by decide) (fun h7 => ?_) (fun h7 => absurd h7 (by decide))
    refine z_aload_n C dX5_freePages_14 rfl 1 rfl ?_
    refine z_iload_n C dX5_freePages_15 rfl 2 rfl ?_
    refine z_callV (rest := []) C (m_X5_giveBlock l G base xs r tl hfo hoo z hz (hfa z hz hfs)) ml_X5_107 kw_X5_giveBlock rfl rfl rfl rfl (by simp [Value.category]) dX5_freePages_16 (by decide) (by decide) (by decide) (by decide) ?_
    rintro _ _ ⟨rfl, rfl⟩
    refine z_st (st' := [.int (nI (2 ^ r.2.1 2 z))]) rfl ?_
    exact z_iret C hrt rfl dX5_freePages_19 (by decide) (by decide) (by first | exact ⟨by unfold r_fpA; rw [if_neg (by rw [h9]; decide), h9], by unfold r_fpS; rw [if_neg (by rw [h9]; decide)]⟩ | exact ⟨by unfold r_fpA; rw [if_pos h9, cl_nI hz], by unfold r_fpS; rw [if_pos h9, cl_nI hz]⟩)

set_option maxHeartbeats 4000000 in
set_option maxRecDepth 100000 in
theorem m_X5_pages (l : Launch) (G : z_G) (base : Nat) (xs : Nat → va_E) (r : r_T) (tl : List va_E) (hfo : ∀ p, r.2.1 1 p < 256) (hoo : ∀ p, r.2.1 2 p ≤ 6) (hal : ∀ p, p < 256 → r_free r p = true → p + 2 ^ r.2.1 2 p ≤ 256) (x : Int32) : z_M l G base yX5_pages cX5_pages 2 (some .int) 5 0 0 [.ref (base + 16), .int (x)] (hpM G base xs r tl) (fun v hp' => v = some (.int (r_pgA r (x))) ∧ hp' = hpM G base xs (r_pgS r (x)) tl) := by
  refine z_M.of (lv0 := [(0, .ref (base + 16)), (1, .int (x))]) (by decide) (Nat.le_of_ble_eq_true rfl) rfl ?_
  intro p e s m below meth c hmn hrt C
  refine z_aload_n C dX5_pages_0 rfl 0 rfl ?_
  refine z_get C fl_X5_58 dX5_pages_1 rfl rfl ?_
  refine z_if_eq (tgt := 25) C dX5_pages_4 (by decide) (fun h4 => ?_) (fun h4 => ?_)
  · skip
    refine z_iconst (v := -1) C dX5_pages_25 (by decide) ?_
    exact z_iret C hrt rfl dX5_pages_26 (by decide) (by decide) (by first | exact ⟨by unfold r_pgA; rw [if_neg (by first | exact fun q => q.1 h4 | exact fun q => bI_eq h14 q.2)], by unfold r_pgS; rw [if_neg (by first | exact fun q => q.1 h4 | exact fun q => bI_eq h14 q.2)]⟩ | exact ⟨by unfold r_pgA; rw [if_pos ⟨h4, hxx⟩, hck], by unfold r_pgS; rw [if_pos ⟨h4, hxx⟩, hck]⟩)
  · skip
    refine z_iload_n C dX5_pages_7 rfl 1 rfl ?_
    refine z_iconst (v := 0) C dX5_pages_8 (by decide) ?_
    refine z_bipush (v := 6) C dX5_pages_9 (by decide) ?_
    refine z_callS (rest := []) C (m_X5_in l G base _ (x) ((0 : Int32)) ((6 : Int32))) ml_X5_62 kw_X5_in rfl rfl (by simp [Value.category]) dX5_pages_11 (by decide) (by decide) (by decide) (by decide) ?_
    rintro _ _ ⟨rfl, rfl⟩
    refine z_st (st' := [.int ((bI (decide ((0 : Int32) ≤ x ∧ x ≤ (6 : Int32)))))]) rfl ?_
    refine z_if_eq (tgt := 25) C dX5_pages_14 (by decide) (fun h14 => ?_) (fun h14 => ?_)
    · skip
      refine z_iconst (v := -1) C dX5_pages_25 (by decide) ?_
      exact z_iret C hrt rfl dX5_pages_26 (by decide) (by decide) (by first | exact ⟨by unfold r_pgA; rw [if_neg (by first | exact fun q => q.1 h4 | exact fun q => bI_eq h14 q.2)], by unfold r_pgS; rw [if_neg (by first | exact fun q => q.1 h4 | exact fun q => bI_eq h14 q.2)]⟩ | exact ⟨by unfold r_pgA; rw [if_pos ⟨h4, hxx⟩, hck], by unfold r_pgS; rw [if_pos ⟨h4, hxx⟩, hck]⟩)
    · skip
      have hxx := bI_ne h14
      obtain ⟨k, hk, rfl⟩ := in_of (M := 6) (by decide) hxx
      have hck : (nI k).toNatClampNeg = k := nI_clamp (by omega)
      refine z_aload_n C dX5_pages_17 rfl 0 rfl ?_
      refine z_iload_n C dX5_pages_18 rfl 1 rfl ?_
      refine z_callV (rest := []) C (m_X5_takeBlock l G base xs r tl hfo hoo hal k hk) ml_X5_100 kw_X5_takeBlock rfl rfl rfl rfl (by simp [Value.category]) dX5_pages_19 (by decide) (by decide) (by decide) (by decide) ?_
      rintro _ _ ⟨rfl, rfl⟩
      refine z_st (st' := [.int (oI (r_tk r k))]) rfl ?_
      refine z_goto (tgt := 26) C dX5_pages_22 (by decide) ?_
      exact z_iret C hrt rfl dX5_pages_26 (by decide) (by decide) (by first | exact ⟨by unfold r_pgA; rw [if_neg (by first | exact fun q => q.1 h4 | exact fun q => bI_eq h14 q.2)], by unfold r_pgS; rw [if_neg (by first | exact fun q => q.1 h4 | exact fun q => bI_eq h14 q.2)]⟩ | exact ⟨by unfold r_pgA; rw [if_pos ⟨h4, hxx⟩, hck], by unfold r_pgS; rw [if_pos ⟨h4, hxx⟩, hck]⟩)

set_option maxHeartbeats 4000000 in
set_option maxRecDepth 100000 in
theorem m_X5_usable (l : Launch) (G : z_G) (base : Nat) (xs : Nat → va_E) (r : r_T) (tl : List va_E) (x y : Int32) : z_M l G base yX5_usable cX5_usable 4 (some .boolean) 1 0 0 [.ref (base + 16), .int (x), .int (y)] (hpM G base xs r tl) (fun v hp' => v = some (.int (bI (r_usB r (x) (y)))) ∧ hp' = hpM G base xs (r_usS r (x) (y)) tl) := by
  refine z_M.of (lv0 := [(0, .ref (base + 16)), (1, .int (x)), (2, .int (y))]) (by decide) (Nat.le_of_ble_eq_true rfl) rfl ?_
  intro p e s m below meth c hmn hrt C
  refine z_aload_n C dX5_usable_0 rfl 0 rfl ?_
  refine z_get C fl_X5_58 dX5_usable_1 rfl rfl ?_
  refine z_if_ne (tgt := 29) C dX5_usable_4 (by decide) (fun h4 => ?_) (fun h4 => ?_)
  · skip
    refine z_iconst (v := 0) C dX5_usable_29 (by decide) ?_
    exact z_iret C hrt rfl dX5_usable_30 (by decide) (by decide) (⟨by rw [show r_usB r x y = false from decide_eq_false (by first | exact fun q => h4 q.1 | exact fun q => bI_eq h15 q.2.1 | exact fun q => bI_eq h26 q.2.2)]; rfl, by unfold r_usS; rw [if_neg (by rw [show r_usB r x y = false from decide_eq_false (by first | exact fun q => h4 q.1 | exact fun q => bI_eq h15 q.2.1 | exact fun q => bI_eq h26 q.2.2)]; exact Bool.false_ne_true)]⟩)
  · skip
    refine z_iload_n C dX5_usable_7 rfl 1 rfl ?_
    refine z_iconst (v := 0) C dX5_usable_8 (by decide) ?_
    refine z_sipush (v := 255) C dX5_usable_9 (by decide) ?_
    refine z_callS (rest := []) C (m_X5_in l G base _ (x) ((0 : Int32)) ((255 : Int32))) ml_X5_62 kw_X5_in rfl rfl (by simp [Value.category]) dX5_usable_12 (by decide) (by decide) (by decide) (by decide) ?_
    rintro _ _ ⟨rfl, rfl⟩
    refine z_st (st' := [.int ((bI (decide ((0 : Int32) ≤ x ∧ x ≤ (255 : Int32)))))]) rfl ?_
    refine z_if_eq (tgt := 29) C dX5_usable_15 (by decide) (fun h15 => ?_) (fun h15 => ?_)
    · skip
      refine z_iconst (v := 0) C dX5_usable_29 (by decide) ?_
      exact z_iret C hrt rfl dX5_usable_30 (by decide) (by decide) (⟨by rw [show r_usB r x y = false from decide_eq_false (by first | exact fun q => h4 q.1 | exact fun q => bI_eq h15 q.2.1 | exact fun q => bI_eq h26 q.2.2)]; rfl, by unfold r_usS; rw [if_neg (by rw [show r_usB r x y = false from decide_eq_false (by first | exact fun q => h4 q.1 | exact fun q => bI_eq h15 q.2.1 | exact fun q => bI_eq h26 q.2.2)]; exact Bool.false_ne_true)]⟩)
    · skip
      refine z_iload_n C dX5_usable_18 rfl 2 rfl ?_
      refine z_iload_n C dX5_usable_19 rfl 1 rfl ?_
      refine z_sipush (v := 255) C dX5_usable_20 (by decide) ?_
      refine z_callS (rest := []) C (m_X5_in l G base _ (y) (x) ((255 : Int32))) ml_X5_62 kw_X5_in rfl rfl (by simp [Value.category]) dX5_usable_23 (by decide) (by decide) (by decide) (by decide) ?_
      rintro _ _ ⟨rfl, rfl⟩
      refine z_st (st' := [.int ((bI (decide (x ≤ y ∧ y ≤ (255 : Int32)))))]) rfl ?_
      refine z_if_ne (tgt := 31) C dX5_usable_26 (by decide) (fun h26 => ?_) (fun h26 => ?_)
      · skip
        have hxx := bI_ne h15
        have hyy := bI_ne h26
        obtain ⟨a, ha, rfl⟩ := in_of (M := 255) (by decide) hxx
        obtain ⟨b, hb, rfl⟩ := in_of (M := 255) (by decide) ⟨Int32.le_trans hxx.1 hyy.1, hyy.2⟩
        have hab : a ≤ b := (nI_leI (by omega) (by omega)).mp hyy.1
        have hB : r_usB r (nI a) (nI b) = true := decide_eq_true ⟨h4, hxx, hyy⟩
        refine z_iload_n C dX5_usable_31 rfl 1 rfl ?_
        refine z_istore_n (lv' := [(3, .int (nI a)), (0, .ref (base + 16)), (1, .int (nI a)), (2, .int (nI b))]) C dX5_usable_32 rfl (by decide) rfl ?_
        refine z_lv (lv' := [(3, .int (nI a)), (0, .ref (base + 16)), (2, .int (nI b))]) [0, 1, 3] rfl ?_
        have loop : ∀ (n : Nat) (z : Nat) (f : Nat → Int32), (z ≤ b + 1) → (b + 2 ≤ n + z) → (r_tell (b + 1 - z) z f = r_tell (b + 1 - a) a (r.2.2 0)) → z_R p l e (z_rm 1 0 0) s m ([Value.ref (base + 16), .int (nI a), .int (nI b)] : List Value).toArray below meth c (MQ below (z_Qc G base (fun v hp' => v = some (.int (bI (r_usB r (nI a) (nI b)))) ∧ hp' = hpM G base xs (r_usS r (nI a) (nI b)) tl)) ([Value.ref (base + 16), .int (nI a), .int (nI b)] : List Value).toArray s 0 0 (fun z => base ≤ z)) G base 4 0 0 33 [(3, .int (nI z)), (0, .ref (base + 16)), (2, .int (nI b))] [] (hpM G base xs (r.1, r.2.1, va_up r.2.2 0 f) tl) := by
          intro n
          induction n with
          | zero => intro z f hz hn0 hv; exact absurd hn0 (by omega)
          | succ n ih =>
            intro z f hz hn0 hv
            refine z_iload_n C dX5_usable_33 rfl 0 rfl ?_
            refine z_iload_n C dX5_usable_34 rfl 2 rfl ?_
            refine z_icmp_gt (tgt := 51) C dX5_usable_35 (by decide) (fun h35 => ?_) (fun h35 => ?_)
            · skip
              have ze : z = b + 1 := by
                rcases Nat.lt_or_ge b z with q9 | q9
                · omega
                · exact absurd h35 (nI_nlt q9 (by omega))
              refine z_iconst (v := 1) C dX5_usable_51 (by decide) ?_
              exact z_iret C hrt rfl dX5_usable_52 (by decide) (by decide) (⟨by rw [hB]; rfl, by unfold r_usS; rw [if_pos hB, cl_nI (by omega), cl_nI (by omega), ← hv, ze, Nat.sub_self]; rfl⟩)
            · skip
              have zl : z ≤ b := by
                rcases Nat.lt_or_ge b z with q9 | q9
                · exact absurd (nI_lt q9 (by omega)) h35
                · exact q9
              refine z_aload_n C dX5_usable_38 rfl 1 rfl ?_
              refine z_get C fl_X5_13 dX5_usable_39 rfl rfl ?_
              refine z_iload_n C dX5_usable_42 rfl 0 rfl ?_
              refine z_iconst (v := 1) C dX5_usable_43 (by decide) ?_
              refine z_zastN C dX5_usable_44 rfl (by omega) (by decide) ?_
              refine z_iinc (k := 0) (v := nI (z + 1)) (lv' := [(3, .int (nI (z + 1))), (0, .ref (base + 16)), (2, .int (nI b))]) C dX5_usable_45 rfl (nI_1 z) (by decide) rfl ?_
              refine z_goto (tgt := 33) C dX5_usable_48 (by decide) ?_
              refine z_lv (lv' := [(3, .int (nI (z + 1))), (0, .ref (base + 16)), (2, .int (nI b))]) [0, 1, 2] rfl ?_
              refine z_hp (hp' := hpM G base xs (r.1, r.2.1, va_up r.2.2 0 (upd f z 1)) tl) rfl ?_
              exact ih (z + 1) _ (by omega) (by omega) (by rw [← hv, show b + 1 - z = (b + 1 - (z + 1)) + 1 by omega]; rfl)
        refine z_hp (hp' := hpM G base xs (r.1, r.2.1, va_up r.2.2 0 (r.2.2 0)) tl) rfl ?_
        exact loop (b + 2) a _ (by omega) (by omega) rfl
      · skip
        refine z_iconst (v := 0) C dX5_usable_29 (by decide) ?_
        exact z_iret C hrt rfl dX5_usable_30 (by decide) (by decide) (⟨by rw [show r_usB r x y = false from decide_eq_false (by first | exact fun q => h4 q.1 | exact fun q => bI_eq h15 q.2.1 | exact fun q => bI_eq h26 q.2.2)]; rfl, by unfold r_usS; rw [if_neg (by rw [show r_usB r x y = false from decide_eq_false (by first | exact fun q => h4 q.1 | exact fun q => bI_eq h15 q.2.1 | exact fun q => bI_eq h26 q.2.2)]; exact Bool.false_ne_true)]⟩)

set_option maxHeartbeats 4000000 in
set_option maxRecDepth 100000 in
theorem m_X5_objectsOf (l : Launch) (G : z_G) (base : Nat) (xs : Nat → va_E) (r : r_T) (tl : List va_E) (c0 : Nat) (hc : c0 < 12) (hs : 1 ≤ r.2.1 7 c0) (hs2 : r.2.1 7 c0 < 65536) (ho : r.2.1 8 c0 ≤ 4) : z_M l G base yX5_objectsOf cX5_objectsOf 2 (some .int) 0 0 0 [.ref (base + 16), .int (nI c0)] (hpM G base xs r tl) (fun v hp' => v = some (.int (nI (r_ob r c0))) ∧ hp' = hpM G base xs r tl) := by
  refine z_M.of (lv0 := [(0, .ref (base + 16)), (1, .int (nI c0))]) (by decide) (Nat.le_of_ble_eq_true rfl) rfl ?_
  intro p e s m below meth c hmn hrt C
  have hp2 := two_le (r.2.1 8 c0) (by omega)
  refine z_bipush (v := 64) C dX5_objectsOf_0 (by decide) ?_
  refine z_aload_n C dX5_objectsOf_2 rfl 0 rfl ?_
  refine z_get C fl_X5_44 dX5_objectsOf_3 rfl rfl ?_
  refine z_iload_n C dX5_objectsOf_6 rfl 1 rfl ?_
  refine z_ialdK C dX5_objectsOf_7 rfl (by omega) (by decide) ?_
  refine z_ishl C dX5_objectsOf_8 ?_
  refine z_casti (y := nI (64 * 2 ^ r.2.1 8 c0)) (nI_64 _ (by omega)) ?_
  refine z_aload_n C dX5_objectsOf_9 rfl 0 rfl ?_
  refine z_get C fl_X5_41 dX5_objectsOf_10 rfl rfl ?_
  refine z_iload_n C dX5_objectsOf_13 rfl 1 rfl ?_
  refine z_ialdK C dX5_objectsOf_14 rfl (by omega) (by decide) ?_
  refine z_idiv C dX5_objectsOf_15 (nI_ne0 hs (by omega)) ?_
  refine z_casti (y := nI (r_ob r c0)) (pk_div (by omega) (by omega) (by omega)) ?_
  exact z_iret C hrt rfl dX5_objectsOf_16 (by decide) (by decide) (⟨rfl, rfl⟩)

set_option maxHeartbeats 4000000 in
set_option maxRecDepth 100000 in
theorem m_X5_isCache (l : Launch) (G : z_G) (base : Nat) (xs : Nat → va_E) (r : r_T) (tl : List va_E) (x : Int32) : z_M l G base yX5_isCache cX5_isCache 2 (some .boolean) 1 0 0 [.ref (base + 16), .int (x)] (hpM G base xs r tl) (fun v hp' => v = some (.int (bI (r_isc r (x)))) ∧ hp' = hpM G base xs r tl) := by
  refine z_M.of (lv0 := [(0, .ref (base + 16)), (1, .int (x))]) (by decide) (Nat.le_of_ble_eq_true rfl) rfl ?_
  intro p e s m below meth c hmn hrt C
  refine z_iload_n C dX5_isCache_0 rfl 1 rfl ?_
  refine z_iconst (v := 0) C dX5_isCache_1 (by decide) ?_
  refine z_aload_n C dX5_isCache_2 rfl 0 rfl ?_
  refine z_get C fl_X5_110 dX5_isCache_3 rfl rfl ?_
  refine z_iconst (v := 1) C dX5_isCache_6 (by decide) ?_
  refine z_isub C dX5_isCache_7 ?_
  refine z_callS (rest := []) C (m_X5_in l G base _ (x) ((0 : Int32)) ((r.1 1 - (1 : Int32)))) ml_X5_62 kw_X5_in rfl rfl (by simp [Value.category]) dX5_isCache_8 (by decide) (by decide) (by decide) (by decide) ?_
  rintro _ _ ⟨rfl, rfl⟩
  refine z_st (st' := [.int ((bI (decide ((0 : Int32) ≤ x ∧ x ≤ (r.1 1 - (1 : Int32))))))]) rfl ?_
  exact z_iret C hrt (nar_b _) dX5_isCache_11 (by decide) (by decide) (⟨rfl, rfl⟩)

set_option maxHeartbeats 4000000 in
set_option maxRecDepth 100000 in
theorem m_X5_isSlab (l : Launch) (G : z_G) (base : Nat) (xs : Nat → va_E) (r : r_T) (tl : List va_E) (hfo : ∀ p, r.2.1 1 p < 256) (z c0 : Nat) (hz : z < 256) : z_M l G base yX5_isSlab cX5_isSlab 3 (some .boolean) 2 0 0 [.ref (base + 16), .int (nI z), .int (nI c0)] (hpM G base xs r tl) (fun v hp' => v = some (.int (bI (r_slab r z c0))) ∧ hp' = hpM G base xs r tl) := by
  refine z_M.of (lv0 := [(0, .ref (base + 16)), (1, .int (nI z)), (2, .int (nI c0))]) (by decide) (Nat.le_of_ble_eq_true rfl) rfl ?_
  intro p e s m below meth c hmn hrt C
  refine z_aload_n C dX5_isSlab_0 rfl 0 rfl ?_
  refine z_iload_n C dX5_isSlab_1 rfl 1 rfl ?_
  refine z_callV (rest := []) C (m_X5_isFirst l G base xs r tl hfo z (by omega)) ml_X5_78 kw_X5_isFirst rfl rfl rfl rfl (by simp [Value.category]) dX5_isSlab_2 (by decide) (by decide) (by decide) (by decide) ?_
  rintro _ _ ⟨rfl, rfl⟩
  refine z_st (st' := [.int ((bI (r_first r z)))]) rfl ?_
  refine z_if_eq (tgt := 31) C dX5_isSlab_5 (by decide) (fun h5 => ?_) (fun h5 => ?_)
  · skip
    refine z_iconst (v := 0) C dX5_isSlab_31 (by decide) ?_
    exact z_iret C hrt rfl dX5_isSlab_32 (by decide) (by decide) (⟨by unfold r_slab; rw [← bI_f (by first | (exact fun q => by rw [bI_ff h5] at q; exact Bool.noConfusion q.1) | exact fun q => q.2.1 h14 | exact fun q => h24 q.2.2)], rfl⟩)
  · skip
    refine z_aload_n C dX5_isSlab_8 rfl 0 rfl ?_
    refine z_get C fl_X5_23 dX5_isSlab_9 rfl rfl ?_
    refine z_iload_n C dX5_isSlab_12 rfl 1 rfl ?_
    refine z_zaldN C dX5_isSlab_13 rfl (by omega) (by decide) ?_
    refine z_if_eq (tgt := 31) C dX5_isSlab_14 (by decide) (fun h14 => ?_) (fun h14 => ?_)
    · skip
      refine z_iconst (v := 0) C dX5_isSlab_31 (by decide) ?_
      exact z_iret C hrt rfl dX5_isSlab_32 (by decide) (by decide) (⟨by unfold r_slab; rw [← bI_f (by first | (exact fun q => by rw [bI_ff h5] at q; exact Bool.noConfusion q.1) | exact fun q => q.2.1 h14 | exact fun q => h24 q.2.2)], rfl⟩)
    · skip
      refine z_aload_n C dX5_isSlab_17 rfl 0 rfl ?_
      refine z_get C fl_X5_26 dX5_isSlab_18 rfl rfl ?_
      refine z_iload_n C dX5_isSlab_21 rfl 1 rfl ?_
      refine z_ialdN C dX5_isSlab_22 rfl (by omega) (by decide) ?_
      refine z_iload_n C dX5_isSlab_23 rfl 2 rfl ?_
      refine z_icmp_ne (tgt := 31) C dX5_isSlab_24 (by decide) (fun h24 => ?_) (fun h24 => ?_)
      · skip
        refine z_iconst (v := 0) C dX5_isSlab_31 (by decide) ?_
        exact z_iret C hrt rfl dX5_isSlab_32 (by decide) (by decide) (⟨by unfold r_slab; rw [← bI_f (by first | (exact fun q => by rw [bI_ff h5] at q; exact Bool.noConfusion q.1) | exact fun q => q.2.1 h14 | exact fun q => h24 q.2.2)], rfl⟩)
      · skip
        refine z_iconst (v := 1) C dX5_isSlab_27 (by decide) ?_
        refine z_goto (tgt := 32) C dX5_isSlab_28 (by decide) ?_
        exact z_iret C hrt rfl dX5_isSlab_32 (by decide) (by decide) (⟨by unfold r_slab; rw [← bI_t ⟨bI_nt h5, h14, h24⟩], rfl⟩)

set_option maxHeartbeats 4000000 in
set_option maxRecDepth 100000 in
theorem m_X5_liveOf (l : Launch) (G : z_G) (base : Nat) (xs : Nat → va_E) (r : r_T) (tl : List va_E) (z c0 : Nat) (hz : z < 256) (hcz : r.2.2 2 z = nI c0) (hc : c0 < 12) (hs : 1 ≤ r.2.1 7 c0) (hs2 : r.2.1 7 c0 < 65536) (ho : r.2.1 8 c0 ≤ 4) (hl : r.2.1 4 z ≤ r_ob r c0) : z_M l G base yX5_liveOf cX5_liveOf 2 (some .int) 1 0 0 [.ref (base + 16), .int (nI z)] (hpM G base xs r tl) (fun v hp' => v = some (.int (nI (r_ob r c0 - r.2.1 4 z))) ∧ hp' = hpM G base xs r tl) := by
  refine z_M.of (lv0 := [(0, .ref (base + 16)), (1, .int (nI z))]) (by decide) (Nat.le_of_ble_eq_true rfl) rfl ?_
  intro p e s m below meth c hmn hrt C
  refine z_aload_n C dX5_liveOf_0 rfl 0 rfl ?_
  refine z_aload_n C dX5_liveOf_1 rfl 0 rfl ?_
  refine z_get C fl_X5_26 dX5_liveOf_2 rfl rfl ?_
  refine z_iload_n C dX5_liveOf_5 rfl 1 rfl ?_
  refine z_ialdN C dX5_liveOf_6 rfl (by omega) (by decide) ?_
  refine z_casti (y := nI c0) (hcz) ?_
  refine z_callV (rest := []) C (m_X5_objectsOf l G base xs r tl c0 hc hs hs2 ho) ml_X5_113 kw_X5_objectsOf rfl rfl rfl rfl (by simp [Value.category]) dX5_liveOf_7 (by decide) (by decide) (by decide) (by decide) ?_
  rintro _ _ ⟨rfl, rfl⟩
  refine z_st (st' := [.int (nI (r_ob r c0))]) rfl ?_
  refine z_aload_n C dX5_liveOf_10 rfl 0 rfl ?_
  refine z_get C fl_X5_32 dX5_liveOf_11 rfl rfl ?_
  refine z_iload_n C dX5_liveOf_14 rfl 1 rfl ?_
  refine z_ialdK C dX5_liveOf_15 rfl (by omega) (by decide) ?_
  refine z_isub C dX5_liveOf_16 ?_
  refine z_casti (y := nI (r_ob r c0 - r.2.1 4 z)) (pk_sub hl) ?_
  exact z_iret C hrt rfl dX5_liveOf_17 (by decide) (by decide) (⟨rfl, rfl⟩)

set_option maxHeartbeats 4000000 in
set_option maxRecDepth 100000 in
theorem m_X5_slabsOf (l : Launch) (G : z_G) (base : Nat) (xs : Nat → va_E) (r : r_T) (tl : List va_E) (hfo : ∀ p, r.2.1 1 p < 256) (c0 : Nat) : z_M l G base yX5_slabsOf cX5_slabsOf 4 (some .int) 3 0 0 [.ref (base + 16), .int (nI c0)] (hpM G base xs r tl) (fun v hp' => v = some (.int (nI (r_sum (fun p => if r_slab r p c0 = true then 1 else 0) 256))) ∧ hp' = hpM G base xs r tl) := by
  refine z_M.of (lv0 := [(0, .ref (base + 16)), (1, .int (nI c0))]) (by decide) (Nat.le_of_ble_eq_true rfl) rfl ?_
  intro p e s m below meth c hmn hrt C
  refine z_iconst (v := 0) C dX5_slabsOf_0 (by decide) ?_
  refine z_casti (y := nI 0) (rfl) ?_
  refine z_istore_n (lv' := [(2, .int (nI 0)), (0, .ref (base + 16)), (1, .int (nI c0))]) C dX5_slabsOf_1 rfl (by decide) rfl ?_
  refine z_iconst (v := 0) C dX5_slabsOf_2 (by decide) ?_
  refine z_casti (y := nI 0) (rfl) ?_
  refine z_istore_n (lv' := [(3, .int (nI 0)), (2, .int (nI 0)), (0, .ref (base + 16)), (1, .int (nI c0))]) C dX5_slabsOf_3 rfl (by decide) rfl ?_
  refine z_lv (lv' := [(3, .int (nI 0)), (2, .int (nI 0)), (0, .ref (base + 16)), (1, .int (nI c0))]) [0, 1, 2, 3] rfl ?_
  have loop : ∀ (n : Nat) (z : Nat), (z ≤ 256) → (257 ≤ n + z) → z_R p l e (z_rm 3 0 0) s m ([Value.ref (base + 16), .int (nI c0)] : List Value).toArray below meth c (MQ below (z_Qc G base (fun v hp' => v = some (.int (nI (r_sum (fun p => if r_slab r p c0 = true then 1 else 0) 256))) ∧ hp' = hpM G base xs r tl)) ([Value.ref (base + 16), .int (nI c0)] : List Value).toArray s 0 0 (fun z => base ≤ z)) G base 4 0 0 4 [(3, .int (nI z)), (2, .int (nI (r_sum (fun p => if r_slab r p c0 = true then 1 else 0) z))), (0, .ref (base + 16)), (1, .int (nI c0))] [] (hpM G base xs r tl) := by
    intro n
    induction n with
    | zero => intro z hz hn0; exact absurd hn0 (by omega)
    | succ n ih =>
      intro z hz hn0
      refine z_iload_n C dX5_slabsOf_4 rfl 0 rfl ?_
      refine z_sipush (v := 256) C dX5_slabsOf_5 (by decide) ?_
      refine z_icmp_ge (tgt := 34) C dX5_slabsOf_8 (by decide) (fun h8 => ?_) (fun h8 => ?_)
      · skip
        have ze : z = 256 := by
          rcases Nat.lt_or_ge z 256 with q9 | q9
          · exact absurd h8 (nI_ge q9 (by decide))
          · omega
        refine z_iload_n C dX5_slabsOf_34 rfl 1 rfl ?_
        exact z_iret C hrt rfl dX5_slabsOf_35 (by decide) (by decide) (⟨by rw [ze], rfl⟩)
      · skip
        have zl : z < 256 := by
          rcases Nat.lt_or_ge z 256 with q9 | q9
          · exact q9
          · exact absurd (nI_le (a := 256) (b := z) q9 (by omega)) h8
        refine z_aload_n C dX5_slabsOf_11 rfl 2 rfl ?_
        refine z_iload_n C dX5_slabsOf_12 rfl 0 rfl ?_
        refine z_iload_n C dX5_slabsOf_13 rfl 3 rfl ?_
        refine z_callV (rest := []) C (m_X5_isSlab l G base xs r tl hfo z c0 (by omega)) ml_X5_119 kw_X5_isSlab rfl rfl rfl rfl (by simp [Value.category]) dX5_slabsOf_14 (by decide) (by decide) (by decide) (by decide) ?_
        rintro _ _ ⟨rfl, rfl⟩
        refine z_st (st' := [.int ((bI (r_slab r z c0)))]) rfl ?_
        refine z_if_eq (tgt := 26) C dX5_slabsOf_17 (by decide) (fun h17 => ?_) (fun h17 => ?_)
        · skip
          refine z_iload_n C dX5_slabsOf_26 rfl 1 rfl ?_
          refine z_casti (y := nI (r_sum (fun p => if r_slab r p c0 = true then 1 else 0) (z + 1))) (by show _ = nI (r_sum (fun p => if r_slab r p c0 = true then 1 else 0) z + (fun p => if r_slab r p c0 = true then 1 else 0) z); first | (rw [show (fun p => if r_slab r p c0 = true then 1 else 0) z = 0 from if_neg (by rw [bI_ff h17]; exact Bool.false_ne_true)]; rfl) | (rw [show (fun p => if r_slab r p c0 = true then 1 else 0) z = 1 from if_pos (bI_nt h17)]; exact nI_add _ _)) ?_
          refine z_istore_n (lv' := [(2, .int (nI (r_sum (fun p => if r_slab r p c0 = true then 1 else 0) (z + 1)))), (3, .int (nI z)), (0, .ref (base + 16)), (1, .int (nI c0))]) C dX5_slabsOf_27 rfl (by decide) rfl ?_
          refine z_iinc (k := 1) (v := nI (z + 1)) (lv' := [(3, .int (nI (z + 1))), (2, .int (nI (r_sum (fun p => if r_slab r p c0 = true then 1 else 0) (z + 1)))), (0, .ref (base + 16)), (1, .int (nI c0))]) C dX5_slabsOf_28 rfl (nI_1 z) (by decide) rfl ?_
          refine z_goto (tgt := 4) C dX5_slabsOf_31 (by decide) ?_
          refine z_lv (lv' := [(3, .int (nI (z + 1))), (2, .int (nI (r_sum (fun p => if r_slab r p c0 = true then 1 else 0) (z + 1)))), (0, .ref (base + 16)), (1, .int (nI c0))]) [0, 1, 2, 3] rfl ?_
          exact ih (z + 1) (by omega) (by omega)
        · skip
          refine z_iload_n C dX5_slabsOf_20 rfl 1 rfl ?_
          refine z_iconst (v := 1) C dX5_slabsOf_21 (by decide) ?_
          refine z_iadd C dX5_slabsOf_22 ?_
          refine z_goto (tgt := 27) C dX5_slabsOf_23 (by decide) ?_
          refine z_casti (y := nI (r_sum (fun p => if r_slab r p c0 = true then 1 else 0) (z + 1))) (by show _ = nI (r_sum (fun p => if r_slab r p c0 = true then 1 else 0) z + (fun p => if r_slab r p c0 = true then 1 else 0) z); first | (rw [show (fun p => if r_slab r p c0 = true then 1 else 0) z = 0 from if_neg (by rw [bI_ff h17]; exact Bool.false_ne_true)]; rfl) | (rw [show (fun p => if r_slab r p c0 = true then 1 else 0) z = 1 from if_pos (bI_nt h17)]; exact nI_add _ _)) ?_
          refine z_istore_n (lv' := [(2, .int (nI (r_sum (fun p => if r_slab r p c0 = true then 1 else 0) (z + 1)))), (3, .int (nI z)), (0, .ref (base + 16)), (1, .int (nI c0))]) C dX5_slabsOf_27 rfl (by decide) rfl ?_
          refine z_iinc (k := 1) (v := nI (z + 1)) (lv' := [(3, .int (nI (z + 1))), (2, .int (nI (r_sum (fun p => if r_slab r p c0 = true then 1 else 0) (z + 1)))), (0, .ref (base + 16)), (1, .int (nI c0))]) C dX5_slabsOf_28 rfl (nI_1 z) (by decide) rfl ?_
          refine z_goto (tgt := 4) C dX5_slabsOf_31 (by decide) ?_
          refine z_lv (lv' := [(3, .int (nI (z + 1))), (2, .int (nI (r_sum (fun p => if r_slab r p c0 = true then 1 else 0) (z + 1)))), (0, .ref (base + 16)), (1, .int (nI c0))]) [0, 1, 2, 3] rfl ?_
          exact ih (z + 1) (by omega) (by omega)
  exact loop 257 0 (by omega) (by omega)

set_option maxHeartbeats 4000000 in
set_option maxRecDepth 100000 in
theorem m_X5_liveIn (l : Launch) (G : z_G) (base : Nat) (xs : Nat → va_E) (r : r_T) (tl : List va_E) (hfo : ∀ p, r.2.1 1 p < 256) (c0 : Nat) (hc : c0 < 12) (hs : 1 ≤ r.2.1 7 c0) (hs2 : r.2.1 7 c0 < 65536) (ho : r.2.1 8 c0 ≤ 4) (hlv : ∀ p, p < 256 → r_slab r p c0 = true → r.2.1 4 p ≤ r_ob r c0) : z_M l G base yX5_liveIn cX5_liveIn 4 (some .int) 3 0 0 [.ref (base + 16), .int (nI c0)] (hpM G base xs r tl) (fun v hp' => v = some (.int (nI (r_sum (fun p => if r_slab r p c0 = true then r_ob r c0 - r.2.1 4 p else 0) 256))) ∧ hp' = hpM G base xs r tl) := by
  refine z_M.of (lv0 := [(0, .ref (base + 16)), (1, .int (nI c0))]) (by decide) (Nat.le_of_ble_eq_true rfl) rfl ?_
  intro p e s m below meth c hmn hrt C
  refine z_iconst (v := 0) C dX5_liveIn_0 (by decide) ?_
  refine z_casti (y := nI 0) (rfl) ?_
  refine z_istore_n (lv' := [(2, .int (nI 0)), (0, .ref (base + 16)), (1, .int (nI c0))]) C dX5_liveIn_1 rfl (by decide) rfl ?_
  refine z_iconst (v := 0) C dX5_liveIn_2 (by decide) ?_
  refine z_casti (y := nI 0) (rfl) ?_
  refine z_istore_n (lv' := [(3, .int (nI 0)), (2, .int (nI 0)), (0, .ref (base + 16)), (1, .int (nI c0))]) C dX5_liveIn_3 rfl (by decide) rfl ?_
  refine z_lv (lv' := [(3, .int (nI 0)), (2, .int (nI 0)), (0, .ref (base + 16)), (1, .int (nI c0))]) [0, 1, 2, 3] rfl ?_
  have loop : ∀ (n : Nat) (z : Nat), (z ≤ 256) → (257 ≤ n + z) → z_R p l e (z_rm 3 0 0) s m ([Value.ref (base + 16), .int (nI c0)] : List Value).toArray below meth c (MQ below (z_Qc G base (fun v hp' => v = some (.int (nI (r_sum (fun p => if r_slab r p c0 = true then r_ob r c0 - r.2.1 4 p else 0) 256))) ∧ hp' = hpM G base xs r tl)) ([Value.ref (base + 16), .int (nI c0)] : List Value).toArray s 0 0 (fun z => base ≤ z)) G base 4 0 0 4 [(3, .int (nI z)), (2, .int (nI (r_sum (fun p => if r_slab r p c0 = true then r_ob r c0 - r.2.1 4 p else 0) z))), (0, .ref (base + 16)), (1, .int (nI c0))] [] (hpM G base xs r tl) := by
    intro n
    induction n with
    | zero => intro z hz hn0; exact absurd hn0 (by omega)
    | succ n ih =>
      intro z hz hn0
      refine z_iload_n C dX5_liveIn_4 rfl 0 rfl ?_
      refine z_sipush (v := 256) C dX5_liveIn_5 (by decide) ?_
      refine z_icmp_ge (tgt := 38) C dX5_liveIn_8 (by decide) (fun h8 => ?_) (fun h8 => ?_)
      · skip
        have ze : z = 256 := by
          rcases Nat.lt_or_ge z 256 with q9 | q9
          · exact absurd h8 (nI_ge q9 (by decide))
          · omega
        refine z_iload_n C dX5_liveIn_38 rfl 1 rfl ?_
        exact z_iret C hrt rfl dX5_liveIn_39 (by decide) (by decide) (⟨by rw [ze], rfl⟩)
      · skip
        have zl : z < 256 := by
          rcases Nat.lt_or_ge z 256 with q9 | q9
          · exact q9
          · exact absurd (nI_le (a := 256) (b := z) q9 (by omega)) h8
        refine z_aload_n C dX5_liveIn_11 rfl 2 rfl ?_
        refine z_iload_n C dX5_liveIn_12 rfl 0 rfl ?_
        refine z_iload_n C dX5_liveIn_13 rfl 3 rfl ?_
        refine z_callV (rest := []) C (m_X5_isSlab l G base xs r tl hfo z c0 (by omega)) ml_X5_119 kw_X5_isSlab rfl rfl rfl rfl (by simp [Value.category]) dX5_liveIn_14 (by decide) (by decide) (by decide) (by decide) ?_
        rintro _ _ ⟨rfl, rfl⟩
        refine z_st (st' := [.int ((bI (r_slab r z c0)))]) rfl ?_
        refine z_if_eq (tgt := 30) C dX5_liveIn_17 (by decide) (fun h17 => ?_) (fun h17 => ?_)
        · skip
          refine z_iload_n C dX5_liveIn_30 rfl 1 rfl ?_
          refine z_casti (y := nI (r_sum (fun p => if r_slab r p c0 = true then r_ob r c0 - r.2.1 4 p else 0) (z + 1))) (by show _ = nI (r_sum (fun p => if r_slab r p c0 = true then r_ob r c0 - r.2.1 4 p else 0) z + (fun p => if r_slab r p c0 = true then r_ob r c0 - r.2.1 4 p else 0) z); first | (rw [show (fun p => if r_slab r p c0 = true then r_ob r c0 - r.2.1 4 p else 0) z = 0 from if_neg (by rw [bI_ff h17]; exact Bool.false_ne_true)]; rfl) | (rw [show (fun p => if r_slab r p c0 = true then r_ob r c0 - r.2.1 4 p else 0) z = r_ob r c0 - r.2.1 4 z from if_pos (bI_nt h17)]; exact nI_add _ _)) ?_
          refine z_istore_n (lv' := [(2, .int (nI (r_sum (fun p => if r_slab r p c0 = true then r_ob r c0 - r.2.1 4 p else 0) (z + 1)))), (3, .int (nI z)), (0, .ref (base + 16)), (1, .int (nI c0))]) C dX5_liveIn_31 rfl (by decide) rfl ?_
          refine z_iinc (k := 1) (v := nI (z + 1)) (lv' := [(3, .int (nI (z + 1))), (2, .int (nI (r_sum (fun p => if r_slab r p c0 = true then r_ob r c0 - r.2.1 4 p else 0) (z + 1)))), (0, .ref (base + 16)), (1, .int (nI c0))]) C dX5_liveIn_32 rfl (nI_1 z) (by decide) rfl ?_
          refine z_goto (tgt := 4) C dX5_liveIn_35 (by decide) ?_
          refine z_lv (lv' := [(3, .int (nI (z + 1))), (2, .int (nI (r_sum (fun p => if r_slab r p c0 = true then r_ob r c0 - r.2.1 4 p else 0) (z + 1)))), (0, .ref (base + 16)), (1, .int (nI c0))]) [0, 1, 2, 3] rfl ?_
          exact ih (z + 1) (by omega) (by omega)
        · skip
          refine z_iload_n C dX5_liveIn_20 rfl 1 rfl ?_
          refine z_aload_n C dX5_liveIn_21 rfl 2 rfl ?_
          refine z_iload_n C dX5_liveIn_22 rfl 0 rfl ?_
          refine z_callV (rest := [.int (nI (r_sum (fun p => if r_slab r p c0 = true then r_ob r c0 - r.2.1 4 p else 0) z))]) C (m_X5_liveOf l G base xs r tl z c0 zl (of_decide_eq_true (bI_nt h17)).2.2 hc hs hs2 ho (hlv z zl (bI_nt h17))) ml_X5_122 kw_X5_liveOf rfl rfl rfl rfl (by simp [Value.category]) dX5_liveIn_23 (by decide) (by decide) (by decide) (by decide) ?_
          rintro _ _ ⟨rfl, rfl⟩
          refine z_st (st' := [.int (nI (r_ob r c0 - r.2.1 4 z)), .int (nI (r_sum (fun p => if r_slab r p c0 = true then r_ob r c0 - r.2.1 4 p else 0) z))]) rfl ?_
          refine z_iadd C dX5_liveIn_26 ?_
          refine z_goto (tgt := 31) C dX5_liveIn_27 (by decide) ?_
          refine z_casti (y := nI (r_sum (fun p => if r_slab r p c0 = true then r_ob r c0 - r.2.1 4 p else 0) (z + 1))) (by show _ = nI (r_sum (fun p => if r_slab r p c0 = true then r_ob r c0 - r.2.1 4 p else 0) z + (fun p => if r_slab r p c0 = true then r_ob r c0 - r.2.1 4 p else 0) z); first | (rw [show (fun p => if r_slab r p c0 = true then r_ob r c0 - r.2.1 4 p else 0) z = 0 from if_neg (by rw [bI_ff h17]; exact Bool.false_ne_true)]; rfl) | (rw [show (fun p => if r_slab r p c0 = true then r_ob r c0 - r.2.1 4 p else 0) z = r_ob r c0 - r.2.1 4 z from if_pos (bI_nt h17)]; exact nI_add _ _)) ?_
          refine z_istore_n (lv' := [(2, .int (nI (r_sum (fun p => if r_slab r p c0 = true then r_ob r c0 - r.2.1 4 p else 0) (z + 1)))), (3, .int (nI z)), (0, .ref (base + 16)), (1, .int (nI c0))]) C dX5_liveIn_31 rfl (by decide) rfl ?_
          refine z_iinc (k := 1) (v := nI (z + 1)) (lv' := [(3, .int (nI (z + 1))), (2, .int (nI (r_sum (fun p => if r_slab r p c0 = true then r_ob r c0 - r.2.1 4 p else 0) (z + 1)))), (0, .ref (base + 16)), (1, .int (nI c0))]) C dX5_liveIn_32 rfl (nI_1 z) (by decide) rfl ?_
          refine z_goto (tgt := 4) C dX5_liveIn_35 (by decide) ?_
          refine z_lv (lv' := [(3, .int (nI (z + 1))), (2, .int (nI (r_sum (fun p => if r_slab r p c0 = true then r_ob r c0 - r.2.1 4 p else 0) (z + 1)))), (0, .ref (base + 16)), (1, .int (nI c0))]) [0, 1, 2, 3] rfl ?_
          exact ih (z + 1) (by omega) (by omega)
  exact loop 257 0 (by omega) (by omega)

set_option maxHeartbeats 4000000 in
set_option maxRecDepth 100000 in
theorem m_X5_isAddress (l : Launch) (G : z_G) (base : Nat) (hp : List va_E) (x : Int32) : z_M l G base yX5_isAddress cX5_isAddress 1 (some .boolean) 1 0 0 [.int (x)] hp (fun v hp' => v = some (.int (bI (decide (0 ≤ x ∧ x ≤ 16383)))) ∧ hp' = hp) := by
  refine z_M.of (lv0 := [(0, .int (x))]) (by decide) (Nat.le_of_ble_eq_true rfl) rfl ?_
  intro p e s m below meth c hmn hrt C
  refine z_iload_n C dX5_isAddress_0 rfl 0 rfl ?_
  refine z_iconst (v := 0) C dX5_isAddress_1 (by decide) ?_
  refine z_sipush (v := 16383) C dX5_isAddress_2 (by decide) ?_
  refine z_callS (rest := []) C (m_X5_in l G base _ (x) ((0 : Int32)) ((16383 : Int32))) ml_X5_62 kw_X5_in rfl rfl (by simp [Value.category]) dX5_isAddress_5 (by decide) (by decide) (by decide) (by decide) ?_
  rintro _ _ ⟨rfl, rfl⟩
  refine z_st (st' := [.int ((bI (decide ((0 : Int32) ≤ x ∧ x ≤ (16383 : Int32)))))]) rfl ?_
  exact z_iret C hrt (nar_b _) dX5_isAddress_8 (by decide) (by decide) (⟨rfl, rfl⟩)

set_option maxHeartbeats 4000000 in
set_option maxRecDepth 100000 in
theorem m_X5_read (l : Launch) (G : z_G) (base : Nat) (xs : Nat → va_E) (r : r_T) (tl : List va_E) (x : Int32) : z_M l G base yX5_read cX5_read 2 (some .int) 2 0 0 [.ref (base + 16), .int (x)] (hpM G base xs r tl) (fun v hp' => v = some (.int (r_rdA r (x))) ∧ hp' = hpM G base xs r tl) := by
  refine z_M.of (lv0 := [(0, .ref (base + 16)), (1, .int (x))]) (by decide) (Nat.le_of_ble_eq_true rfl) rfl ?_
  intro p e s m below meth c hmn hrt C
  refine z_iload_n C dX5_read_0 rfl 1 rfl ?_
  refine z_callS (rest := []) C (m_X5_isAddress l G base _ (x)) ml_X5_155 kw_X5_isAddress rfl rfl (by simp [Value.category]) dX5_read_1 (by decide) (by decide) (by decide) (by decide) ?_
  rintro _ _ ⟨rfl, rfl⟩
  refine z_st (st' := [.int ((bI (decide (0 ≤ x ∧ x ≤ 16383))))]) rfl ?_
  refine z_if_eq (tgt := 16) C dX5_read_4 (by decide) (fun h4 => ?_) (fun h4 => ?_)
  · skip
    refine z_iconst (v := -1) C dX5_read_16 (by decide) ?_
    exact z_iret C hrt rfl dX5_read_17 (by decide) (by decide) (by first | exact ⟨by unfold r_rdA; rw [if_neg (bI_eq h4)], rfl⟩ | exact ⟨by unfold r_rdA; rw [if_pos hxx, hca], rfl⟩)
  · skip
    have hxx := bI_ne h4
    obtain ⟨a, ha, rfl⟩ := in_of (M := 16383) (by decide) hxx
    have hca : (nI a).toNatClampNeg = a := nI_clamp (by omega)
    refine z_aload_n C dX5_read_7 rfl 0 rfl ?_
    refine z_get C fl_X5_7 dX5_read_8 rfl rfl ?_
    refine z_iload_n C dX5_read_11 rfl 1 rfl ?_
    refine z_ialdK C dX5_read_12 rfl (by omega) (by decide) ?_
    refine z_goto (tgt := 17) C dX5_read_13 (by decide) ?_
    exact z_iret C hrt rfl dX5_read_17 (by decide) (by decide) (by first | exact ⟨by unfold r_rdA; rw [if_neg (bI_eq h4)], rfl⟩ | exact ⟨by unfold r_rdA; rw [if_pos hxx, hca], rfl⟩)

set_option maxHeartbeats 4000000 in
set_option maxRecDepth 100000 in
theorem m_X5_write (l : Launch) (G : z_G) (base : Nat) (xs : Nat → va_E) (r : r_T) (tl : List va_E) (x y : Int32) : z_M l G base yX5_write cX5_write 4 (some .int) 2 0 0 [.ref (base + 16), .int (x), .int (y)] (hpM G base xs r tl) (fun v hp' => v = some (.int (r_rdA r (x))) ∧ hp' = hpM G base xs (r_wrS r (x) (y)) tl) := by
  refine z_M.of (lv0 := [(0, .ref (base + 16)), (1, .int (x)), (2, .int (y))]) (by decide) (Nat.le_of_ble_eq_true rfl) rfl ?_
  intro p e s m below meth c hmn hrt C
  refine z_iload_n C dX5_write_0 rfl 1 rfl ?_
  refine z_callS (rest := []) C (m_X5_isAddress l G base _ (x)) ml_X5_155 kw_X5_isAddress rfl rfl (by simp [Value.category]) dX5_write_1 (by decide) (by decide) (by decide) (by decide) ?_
  rintro _ _ ⟨rfl, rfl⟩
  refine z_st (st' := [.int ((bI (decide (0 ≤ x ∧ x ≤ 16383))))]) rfl ?_
  refine z_if_ne (tgt := 9) C dX5_write_4 (by decide) (fun h4 => ?_) (fun h4 => ?_)
  · skip
    have hxx := bI_ne h4
    obtain ⟨a, ha, rfl⟩ := in_of (M := 16383) (by decide) hxx
    have hca : (nI a).toNatClampNeg = a := nI_clamp (by omega)
    refine z_aload_n C dX5_write_9 rfl 0 rfl ?_
    refine z_get C fl_X5_7 dX5_write_10 rfl rfl ?_
    refine z_iload_n C dX5_write_13 rfl 1 rfl ?_
    refine z_ialdK C dX5_write_14 rfl (by omega) (by decide) ?_
    refine z_istore_n (lv' := [(3, .int (nI (((r.2.1 0)) a))), (0, .ref (base + 16)), (1, .int (nI a)), (2, .int (y))]) C dX5_write_15 rfl (by decide) rfl ?_
    refine z_aload_n C dX5_write_16 rfl 1 rfl ?_
    refine z_get C fl_X5_7 dX5_write_17 rfl rfl ?_
    refine z_iload_n C dX5_write_20 rfl 2 rfl ?_
    refine z_iload_n C dX5_write_21 rfl 3 rfl ?_
    refine z_sipush (v := 255) C dX5_write_22 (by decide) ?_
    refine z_iand C dX5_write_25 ?_
    refine z_casti (y := nI (y.toBitVec.toNat % 256)) (pk_and y 8 (by decide)) ?_
    refine z_iastK C dX5_write_26 rfl (by omega) (by decide) ?_
    refine z_iload_n C dX5_write_27 rfl 0 rfl ?_
    exact z_iret C hrt rfl dX5_write_28 (by decide) (by decide) (by first | exact ⟨by unfold r_rdA; rw [if_neg (bI_eq h4)], by unfold r_wrS; rw [if_neg (bI_eq h4)]⟩ | exact ⟨by unfold r_rdA; rw [if_pos hxx, hca], by unfold r_wrS; rw [if_pos hxx, hca]; rfl⟩)
  · skip
    refine z_iconst (v := -1) C dX5_write_7 (by decide) ?_
    exact z_iret C hrt rfl dX5_write_8 (by decide) (by decide) (by first | exact ⟨by unfold r_rdA; rw [if_neg (bI_eq h4)], by unfold r_wrS; rw [if_neg (bI_eq h4)]⟩ | exact ⟨by unfold r_rdA; rw [if_pos hxx, hca], by unfold r_wrS; rw [if_pos hxx, hca]; rfl⟩)

set_option maxHeartbeats 4000000 in
set_option maxRecDepth 100000 in
theorem m_X5_arm (l : Launch) (G : z_G) (base : Nat) (xs : Nat → va_E) (r : r_T) (tl : List va_E) (x : Int32) : z_M l G base yX5_arm cX5_arm 2 (some .boolean) 1 0 0 [.ref (base + 16), .int (x)] (hpM G base xs r tl) (fun v hp' => v = some (.int (bI (decide (0 ≤ x ∧ x ≤ 100)))) ∧ hp' = hpM G base xs (r_armS r (x)) tl) := by
  refine z_M.of (lv0 := [(0, .ref (base + 16)), (1, .int (x))]) (by decide) (Nat.le_of_ble_eq_true rfl) rfl ?_
  intro p e s m below meth c hmn hrt C
  refine z_iload_n C dX5_arm_0 rfl 1 rfl ?_
  refine z_iconst (v := 0) C dX5_arm_1 (by decide) ?_
  refine z_bipush (v := 100) C dX5_arm_2 (by decide) ?_
  refine z_callS (rest := []) C (m_X5_in l G base _ (x) ((0 : Int32)) ((100 : Int32))) ml_X5_62 kw_X5_in rfl rfl (by simp [Value.category]) dX5_arm_4 (by decide) (by decide) (by decide) (by decide) ?_
  rintro _ _ ⟨rfl, rfl⟩
  refine z_st (st' := [.int ((bI (decide ((0 : Int32) ≤ x ∧ x ≤ (100 : Int32)))))]) rfl ?_
  refine z_if_ne (tgt := 12) C dX5_arm_7 (by decide) (fun h7 => ?_) (fun h7 => ?_)
  · skip
    refine z_aload_n C dX5_arm_12 rfl 0 rfl ?_
    refine z_iload_n C dX5_arm_13 rfl 1 rfl ?_
    refine z_put C fl_X5_50 fp_X5 rfl dX5_arm_14 rfl (by simp) rfl rfl ?_
    refine z_iconst (v := 1) C dX5_arm_17 (by decide) ?_
    exact z_iret C hrt rfl dX5_arm_18 (by decide) (by decide) (by first | exact ⟨by rw [← bI_f (bI_eq h7)], by unfold r_armS; rw [if_neg (bI_eq h7)]⟩ | exact ⟨by rw [← bI_t (bI_ne h7)], by unfold r_armS; rw [if_pos (bI_ne h7)]; rfl⟩)
  · skip
    refine z_iconst (v := 0) C dX5_arm_10 (by decide) ?_
    exact z_iret C hrt rfl dX5_arm_11 (by decide) (by decide) (by first | exact ⟨by rw [← bI_f (bI_eq h7)], by unfold r_armS; rw [if_neg (bI_eq h7)]⟩ | exact ⟨by rw [← bI_t (bI_ne h7)], by unfold r_armS; rw [if_pos (bI_ne h7)]; rfl⟩)

set_option maxHeartbeats 4000000 in
set_option maxRecDepth 100000 in
theorem m_X5_block (l : Launch) (G : z_G) (base : Nat) (xs : Nat → va_E) (r : r_T) (tl : List va_E) (x : Int32) : z_M l G base yX5_block cX5_block 2 (some .int) 1 0 0 [.ref (base + 16), .int (x)] (hpM G base xs r tl) (fun v hp' => v = some (.int (oI (r_bk r (x)))) ∧ hp' = hpM G base xs r tl) := by
  refine z_M.of (lv0 := [(0, .ref (base + 16)), (1, .int (x))]) (by decide) (Nat.le_of_ble_eq_true rfl) rfl ?_
  intro p e s m below meth c hmn hrt C
  refine z_aload_n C dX5_block_0 rfl 0 rfl ?_
  refine z_get C fl_X5_58 dX5_block_1 rfl rfl ?_
  refine z_if_eq (tgt := 36) C dX5_block_4 (by decide) (fun h4 => ?_) (fun h4 => ?_)
  · skip
    refine z_iconst (v := -1) C dX5_block_36 (by decide) ?_
    exact z_iret C hrt rfl dX5_block_37 (by decide) (by decide) (by first | exact ⟨by rw [show r_bk r x = none from (by unfold r_bk; rw [if_neg (by first | exact fun q => q.1 h4 | exact fun q => bI_eq h15 q.2.1 | exact fun q => q.2.2 (by rw [hcz]; exact h24))])]; rfl, rfl⟩ | exact ⟨by rw [show r_bk r (nI z) = none from (by unfold r_bk; rw [if_neg (by first | exact fun q => q.1 h4 | exact fun q => bI_eq h15 q.2.1 | exact fun q => q.2.2 (by rw [hcz]; exact h24))])]; rfl, rfl⟩ | exact ⟨by unfold r_bk; rw [if_pos ⟨h4, hxx, by rw [hcz]; exact h24⟩, hcz]; rfl, rfl⟩)
  · skip
    refine z_iload_n C dX5_block_7 rfl 1 rfl ?_
    refine z_iconst (v := 0) C dX5_block_8 (by decide) ?_
    refine z_sipush (v := 255) C dX5_block_9 (by decide) ?_
    refine z_callS (rest := []) C (m_X5_in l G base _ (x) ((0 : Int32)) ((255 : Int32))) ml_X5_62 kw_X5_in rfl rfl (by simp [Value.category]) dX5_block_12 (by decide) (by decide) (by decide) (by decide) ?_
    rintro _ _ ⟨rfl, rfl⟩
    refine z_st (st' := [.int ((bI (decide ((0 : Int32) ≤ x ∧ x ≤ (255 : Int32)))))]) rfl ?_
    refine z_if_eq (tgt := 36) C dX5_block_15 (by decide) (fun h15 => ?_) (fun h15 => ?_)
    · skip
      refine z_iconst (v := -1) C dX5_block_36 (by decide) ?_
      exact z_iret C hrt rfl dX5_block_37 (by decide) (by decide) (by first | exact ⟨by rw [show r_bk r x = none from (by unfold r_bk; rw [if_neg (by first | exact fun q => q.1 h4 | exact fun q => bI_eq h15 q.2.1 | exact fun q => q.2.2 (by rw [hcz]; exact h24))])]; rfl, rfl⟩ | exact ⟨by rw [show r_bk r (nI z) = none from (by unfold r_bk; rw [if_neg (by first | exact fun q => q.1 h4 | exact fun q => bI_eq h15 q.2.1 | exact fun q => q.2.2 (by rw [hcz]; exact h24))])]; rfl, rfl⟩ | exact ⟨by unfold r_bk; rw [if_pos ⟨h4, hxx, by rw [hcz]; exact h24⟩, hcz]; rfl, rfl⟩)
    · skip
      have hxx := bI_ne h15
      obtain ⟨z, hz, rfl⟩ := in_of (M := 255) (by decide) hxx
      have hcz : (nI z).toNatClampNeg = z := nI_clamp (by omega)
      refine z_aload_n C dX5_block_18 rfl 0 rfl ?_
      refine z_get C fl_X5_13 dX5_block_19 rfl rfl ?_
      refine z_iload_n C dX5_block_22 rfl 1 rfl ?_
      refine z_zaldN C dX5_block_23 rfl (by omega) (by decide) ?_
      refine z_if_eq (tgt := 36) C dX5_block_24 (by decide) (fun h24 => ?_) (fun h24 => ?_)
      · skip
        refine z_iconst (v := -1) C dX5_block_36 (by decide) ?_
        exact z_iret C hrt rfl dX5_block_37 (by decide) (by decide) (by first | exact ⟨by rw [show r_bk r x = none from (by unfold r_bk; rw [if_neg (by first | exact fun q => q.1 h4 | exact fun q => bI_eq h15 q.2.1 | exact fun q => q.2.2 (by rw [hcz]; exact h24))])]; rfl, rfl⟩ | exact ⟨by rw [show r_bk r (nI z) = none from (by unfold r_bk; rw [if_neg (by first | exact fun q => q.1 h4 | exact fun q => bI_eq h15 q.2.1 | exact fun q => q.2.2 (by rw [hcz]; exact h24))])]; rfl, rfl⟩ | exact ⟨by unfold r_bk; rw [if_pos ⟨h4, hxx, by rw [hcz]; exact h24⟩, hcz]; rfl, rfl⟩)
      · skip
        refine z_aload_n C dX5_block_27 rfl 0 rfl ?_
        refine z_get C fl_X5_17 dX5_block_28 rfl rfl ?_
        refine z_iload_n C dX5_block_31 rfl 1 rfl ?_
        refine z_ialdK C dX5_block_32 rfl (by omega) (by decide) ?_
        refine z_goto (tgt := 37) C dX5_block_33 (by decide) ?_
        exact z_iret C hrt rfl dX5_block_37 (by decide) (by decide) (by first | exact ⟨by rw [show r_bk r x = none from (by unfold r_bk; rw [if_neg (by first | exact fun q => q.1 h4 | exact fun q => bI_eq h15 q.2.1 | exact fun q => q.2.2 (by rw [hcz]; exact h24))])]; rfl, rfl⟩ | exact ⟨by rw [show r_bk r (nI z) = none from (by unfold r_bk; rw [if_neg (by first | exact fun q => q.1 h4 | exact fun q => bI_eq h15 q.2.1 | exact fun q => q.2.2 (by rw [hcz]; exact h24))])]; rfl, rfl⟩ | exact ⟨by unfold r_bk; rw [if_pos ⟨h4, hxx, by rw [hcz]; exact h24⟩, hcz]; rfl, rfl⟩)

set_option maxHeartbeats 4000000 in
set_option maxRecDepth 100000 in
theorem m_X5_order (l : Launch) (G : z_G) (base : Nat) (xs : Nat → va_E) (r : r_T) (tl : List va_E) (hfo : ∀ p, r.2.1 1 p < 256) (x : Int32) : z_M l G base yX5_order cX5_order 3 (some .int) 2 0 0 [.ref (base + 16), .int (x)] (hpM G base xs r tl) (fun v hp' => v = some (.int (r_orA r (x))) ∧ hp' = hpM G base xs r tl) := by
  refine z_M.of (lv0 := [(0, .ref (base + 16)), (1, .int (x))]) (by decide) (Nat.le_of_ble_eq_true rfl) rfl ?_
  intro p e s m below meth c hmn hrt C
  refine z_aload_n C dX5_order_0 rfl 0 rfl ?_
  refine z_iload_n C dX5_order_1 rfl 1 rfl ?_
  refine z_callV (rest := []) C (m_X5_block l G base xs r tl x) ml_X5_158 kw_X5_block rfl rfl rfl rfl (by simp [Value.category]) dX5_order_2 (by decide) (by decide) (by decide) (by decide) ?_
  rintro _ _ ⟨rfl, rfl⟩
  refine z_st (st' := [.int (oI (r_bk r x))]) rfl ?_
  rcases hbk : r_bk r x with _ | f
  · skip
    refine z_istore_n (lv' := [(2, .int ((-1 : Int32))), (0, .ref (base + 16)), (1, .int (x))]) C dX5_order_5 rfl (by decide) rfl ?_
    refine z_iload_n C dX5_order_6 rfl 0 rfl ?_
    refine z_if_ge (tgt := 14) C dX5_order_7 (by decide) (fun h7 => absurd h7 (by decide)) (fun h7 => ?_)
    refine z_iconst (v := -1) C dX5_order_10 (by decide) ?_
    refine z_goto (tgt := 20) C dX5_order_11 (by decide) ?_
    exact z_iret C hrt rfl dX5_order_20 (by decide) (by decide) (⟨by unfold r_orA; rw [hbk], rfl⟩)
  · skip
    have hf : f < 256 := by
      unfold r_bk at hbk
      split at hbk
      · cases hbk; exact hfo _
      · cases hbk
    refine z_istore_n (lv' := [(2, .int (nI f)), (0, .ref (base + 16)), (1, .int (x))]) C dX5_order_5 rfl (by decide) rfl ?_
    refine z_iload_n C dX5_order_6 rfl 0 rfl ?_
    refine z_if_ge (tgt := 14) C dX5_order_7 (by decide) (fun h7 => ?_) (fun h7 => absurd h7 (fun q => q (nI_pos' (by omega))))
    refine z_aload_n C dX5_order_14 rfl 1 rfl ?_
    refine z_get C fl_X5_20 dX5_order_15 rfl rfl ?_
    refine z_iload_n C dX5_order_18 rfl 0 rfl ?_
    refine z_ialdK C dX5_order_19 rfl (by omega) (by decide) ?_
    exact z_iret C hrt rfl dX5_order_20 (by decide) (by decide) (⟨by unfold r_orA; rw [hbk], rfl⟩)

set_option maxHeartbeats 4000000 in
set_option maxRecDepth 100000 in
theorem m_X5_ofPage (l : Launch) (G : z_G) (base : Nat) (xs : Nat → va_E) (r : r_T) (tl : List va_E) (hfo : ∀ p, r.2.1 1 p < 256) (x : Int32) : z_M l G base yX5_ofPage cX5_ofPage 3 (some .int) 1 0 0 [.ref (base + 16), .int (x)] (hpM G base xs r tl) (fun v hp' => v = some (.int (r_opA r (x))) ∧ hp' = hpM G base xs r tl) := by
  refine z_M.of (lv0 := [(0, .ref (base + 16)), (1, .int (x))]) (by decide) (Nat.le_of_ble_eq_true rfl) rfl ?_
  intro p e s m below meth c hmn hrt C
  refine z_iload_n C dX5_ofPage_0 rfl 1 rfl ?_
  refine z_iconst (v := 0) C dX5_ofPage_1 (by decide) ?_
  refine z_sipush (v := 255) C dX5_ofPage_2 (by decide) ?_
  refine z_callS (rest := []) C (m_X5_in l G base _ (x) ((0 : Int32)) ((255 : Int32))) ml_X5_62 kw_X5_in rfl rfl (by simp [Value.category]) dX5_ofPage_5 (by decide) (by decide) (by decide) (by decide) ?_
  rintro _ _ ⟨rfl, rfl⟩
  refine z_st (st' := [.int ((bI (decide ((0 : Int32) ≤ x ∧ x ≤ (255 : Int32)))))]) rfl ?_
  refine z_if_ne (tgt := 14) C dX5_ofPage_8 (by decide) (fun h8 => ?_) (fun h8 => ?_)
  · skip
    have hxx := bI_ne h8
    obtain ⟨z, hz, rfl⟩ := in_of (M := 255) (by decide) hxx
    have hcz : (nI z).toNatClampNeg = z := nI_clamp (by omega)
    refine z_aload_n C dX5_ofPage_14 rfl 0 rfl ?_
    refine z_get C fl_X5_58 dX5_ofPage_15 rfl rfl ?_
    refine z_if_eq (tgt := 30) C dX5_ofPage_18 (by decide) (fun h18 => ?_) (fun h18 => ?_)
    · skip
      refine z_iconst (v := -1) C dX5_ofPage_30 (by decide) ?_
      exact z_iret C hrt rfl dX5_ofPage_31 (by decide) (by decide) (⟨by unfold r_opA; rw [if_pos hxx, show r_bk r (nI z) = none from (by unfold r_bk; rw [if_neg (by first | exact fun q => q.1 h18 | exact fun q => bI_eq h8 q.2.1 | exact fun q => q.2.2 (by rw [hcz]; exact h27))])], rfl⟩)
    · skip
      refine z_aload_n C dX5_ofPage_21 rfl 0 rfl ?_
      refine z_get C fl_X5_13 dX5_ofPage_22 rfl rfl ?_
      refine z_iload_n C dX5_ofPage_25 rfl 1 rfl ?_
      refine z_zaldN C dX5_ofPage_26 rfl (by omega) (by decide) ?_
      refine z_if_ne (tgt := 32) C dX5_ofPage_27 (by decide) (fun h27 => ?_) (fun h27 => ?_)
      · skip
        refine z_aload_n C dX5_ofPage_32 rfl 0 rfl ?_
        refine z_get C fl_X5_17 dX5_ofPage_33 rfl rfl ?_
        refine z_iload_n C dX5_ofPage_36 rfl 1 rfl ?_
        refine z_ialdK C dX5_ofPage_37 rfl (by omega) (by decide) ?_
        have hf := hfo z
        have hbk : r_bk r (nI z) = some (r.2.1 1 z) := by unfold r_bk; rw [if_pos ⟨h18, hxx, by rw [hcz]; exact h27⟩, hcz]
        refine z_istore_n (lv' := [(2, .int (nI (((r.2.1 1)) z))), (0, .ref (base + 16)), (1, .int (nI z))]) C dX5_ofPage_38 rfl (by decide) rfl ?_
        refine z_aload_n C dX5_ofPage_39 rfl 1 rfl ?_
        refine z_get C fl_X5_23 dX5_ofPage_40 rfl rfl ?_
        refine z_iload_n C dX5_ofPage_43 rfl 0 rfl ?_
        refine z_zaldN C dX5_ofPage_44 rfl (by omega) (by decide) ?_
        refine z_if_ne (tgt := 52) C dX5_ofPage_45 (by decide) (fun h45 => ?_) (fun h45 => ?_)
        · skip
          refine z_aload_n C dX5_ofPage_52 rfl 1 rfl ?_
          refine z_get C fl_X5_26 dX5_ofPage_53 rfl rfl ?_
          refine z_iload_n C dX5_ofPage_56 rfl 0 rfl ?_
          refine z_ialdN C dX5_ofPage_57 rfl (by omega) (by decide) ?_
          refine z_if_ge (tgt := 65) C dX5_ofPage_58 (by decide) (fun h58 => ?_) (fun h58 => ?_)
          · skip
            refine z_iconst (v := 2) C dX5_ofPage_65 (by decide) ?_
            refine z_aload_n C dX5_ofPage_66 rfl 1 rfl ?_
            refine z_get C fl_X5_26 dX5_ofPage_67 rfl rfl ?_
            refine z_iload_n C dX5_ofPage_70 rfl 0 rfl ?_
            refine z_ialdN C dX5_ofPage_71 rfl (by omega) (by decide) ?_
            refine z_iadd C dX5_ofPage_72 ?_
            exact z_iret C hrt rfl dX5_ofPage_73 (by decide) (by decide) (⟨by unfold r_opA; rw [if_pos hxx, hbk]; dsimp only; first | rw [if_pos h45] | (rw [if_neg h45]; first | rw [if_pos h58] | rw [if_neg h58]), rfl⟩)
          · skip
            refine z_iconst (v := 1) C dX5_ofPage_61 (by decide) ?_
            refine z_goto (tgt := 73) C dX5_ofPage_62 (by decide) ?_
            exact z_iret C hrt rfl dX5_ofPage_73 (by decide) (by decide) (⟨by unfold r_opA; rw [if_pos hxx, hbk]; dsimp only; first | rw [if_pos h45] | (rw [if_neg h45]; first | rw [if_pos h58] | rw [if_neg h58]), rfl⟩)
        · skip
          refine z_iconst (v := 0) C dX5_ofPage_48 (by decide) ?_
          refine z_goto (tgt := 73) C dX5_ofPage_49 (by decide) ?_
          exact z_iret C hrt rfl dX5_ofPage_73 (by decide) (by decide) (⟨by unfold r_opA; rw [if_pos hxx, hbk]; dsimp only; first | rw [if_pos h45] | (rw [if_neg h45]; first | rw [if_pos h58] | rw [if_neg h58]), rfl⟩)
      · skip
        refine z_iconst (v := -1) C dX5_ofPage_30 (by decide) ?_
        exact z_iret C hrt rfl dX5_ofPage_31 (by decide) (by decide) (⟨by unfold r_opA; rw [if_pos hxx, show r_bk r (nI z) = none from (by unfold r_bk; rw [if_neg (by first | exact fun q => q.1 h18 | exact fun q => bI_eq h8 q.2.1 | exact fun q => q.2.2 (by rw [hcz]; exact h27))])], rfl⟩)
  · skip
    refine z_bipush (v := -2) C dX5_ofPage_11 (by decide) ?_
    exact z_iret C hrt rfl dX5_ofPage_13 (by decide) (by decide) (⟨by unfold r_opA; rw [if_neg (bI_eq h8)], rfl⟩)
