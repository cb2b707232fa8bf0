set_option maxHeartbeats 4000000 in
set_option maxRecDepth 100000 in
theorem m_X5_in (l : Launch) (G : z_G) (base : Nat) (hp : List va_E) (x y z : Int32) : z_M l G base yX5_in cX5_in 3 (some .boolean) 0 0 0 [.int (x), .int (y), .int (z)] hp (fun v hp' => v = some (.int (bI (decide (y ≤ x ∧ x ≤ z)))) ∧ hp' = hp) := by
  refine z_M.of (lv0 := [(0, .int (x)), (1, .int (y)), (2, .int (z))]) (by decide) (Nat.le_of_ble_eq_true rfl) rfl ?_
  intro p e s m below meth c hmn hrt C
  refine z_iload_n C dX5_in_0 rfl 0 rfl ?_
  refine z_iload_n C dX5_in_1 rfl 1 rfl ?_
  refine z_icmp_lt (tgt := 14) C dX5_in_2 (by decide) (fun h2 => ?_) (fun h2 => ?_)
  · skip
    refine z_iconst (v := 0) C dX5_in_14 (by decide) ?_
    exact z_iret C hrt rfl dX5_in_15 (by decide) (by decide) (⟨by rw [← bI_f (fun q => by first | exact absurd h2 (Int32.not_lt.mpr q.1) | exact absurd h7 (Int32.not_lt.mpr q.2))], rfl⟩)
  · skip
    refine z_iload_n C dX5_in_5 rfl 0 rfl ?_
    refine z_iload_n C dX5_in_6 rfl 2 rfl ?_
    refine z_icmp_gt (tgt := 14) C dX5_in_7 (by decide) (fun h7 => ?_) (fun h7 => ?_)
    · skip
      refine z_iconst (v := 0) C dX5_in_14 (by decide) ?_
      exact z_iret C hrt rfl dX5_in_15 (by decide) (by decide) (⟨by rw [← bI_f (fun q => by first | exact absurd h2 (Int32.not_lt.mpr q.1) | exact absurd h7 (Int32.not_lt.mpr q.2))], rfl⟩)
    · skip
      refine z_iconst (v := 1) C dX5_in_10 (by decide) ?_
      refine z_goto (tgt := 15) C dX5_in_11 (by decide) ?_
      exact z_iret C hrt rfl dX5_in_15 (by decide) (by decide) (⟨by rw [← bI_t ⟨Int32.not_lt.mp h2, Int32.not_lt.mp h7⟩], rfl⟩)

set_option maxHeartbeats 4000000 in
set_option maxRecDepth 100000 in
theorem m_X5_usablePages (l : Launch) (G : z_G) (base : Nat) (xs : Nat → va_E) (r : r_T) (tl : List va_E) : z_M l G base yX5_usablePages cX5_usablePages 3 (some .int) 0 0 0 [.ref (base + 16)] (hpM G base xs r tl) (fun v hp' => v = some (.int (nI (r_sum (fun p => if r.2.2 0 p = 0 then 0 else 1) 256))) ∧ hp' = hpM G base xs r tl) := by
  refine z_M.of (lv0 := [(0, .ref (base + 16))]) (by decide) (Nat.le_of_ble_eq_true rfl) rfl ?_
  intro p e s m below meth c hmn hrt C
  refine z_iconst (v := 0) C dX5_usablePages_0 (by decide) ?_
  refine z_casti (y := nI 0) (rfl) ?_
  refine z_istore_n (lv' := [(1, .int (nI 0)), (0, .ref (base + 16))]) C dX5_usablePages_1 rfl (by decide) rfl ?_
  refine z_iconst (v := 0) C dX5_usablePages_2 (by decide) ?_
  refine z_casti (y := nI 0) (rfl) ?_
  refine z_istore_n (lv' := [(2, .int (nI 0)), (1, .int (nI 0)), (0, .ref (base + 16))]) C dX5_usablePages_3 rfl (by decide) rfl ?_
  refine z_lv (lv' := [(2, .int (nI 0)), (1, .int (nI 0)), (0, .ref (base + 16))]) [0, 1, 2] rfl ?_
  have loop : ∀ (n : Nat) (z : Nat), (z ≤ 256) → (257 ≤ n + z) → z_R p l e (z_rm 0 0 0) s m ([Value.ref (base + 16)] : List Value).toArray below meth c (MQ below (z_Qc G base (fun v hp' => v = some (.int (nI (r_sum (fun p => if r.2.2 0 p = 0 then 0 else 1) 256))) ∧ hp' = hpM G base xs r tl)) ([Value.ref (base + 16)] : List Value).toArray s 0 0 (fun z => base ≤ z)) G base 3 0 0 4 [(2, .int (nI z)), (1, .int (nI (r_sum (fun p => if r.2.2 0 p = 0 then 0 else 1) z))), (0, .ref (base + 16))] [] (hpM G base xs r tl) := by
    intro n
    induction n with
    | zero => intro z hz hn0; exact absurd hn0 (by omega)
    | succ n ih =>
      intro z hz hn0
      refine z_iload_n C dX5_usablePages_4 rfl 0 rfl ?_
      refine z_sipush (v := 256) C dX5_usablePages_5 (by decide) ?_
      refine z_icmp_ge (tgt := 34) C dX5_usablePages_8 (by decide) (fun h8 => ?_) (fun h8 => ?_)
      · skip
        have ze : z = 256 := by
          rcases Nat.lt_or_ge z 256 with q9 | q9
          · exact absurd h8 (nI_ge q9 (by decide))
          · omega
        refine z_iload_n C dX5_usablePages_34 rfl 1 rfl ?_
        exact z_iret C hrt rfl dX5_usablePages_35 (by decide) (by decide) (⟨by rw [ze], rfl⟩)
      · skip
        have zl : z < 256 := by
          rcases Nat.lt_or_ge z 256 with q9 | q9
          · exact q9
          · exact absurd (nI_le (a := 256) (b := z) q9 (by omega)) h8
        refine z_aload_n C dX5_usablePages_11 rfl 2 rfl ?_
        refine z_get C fl_X5_13 dX5_usablePages_12 rfl rfl ?_
        refine z_iload_n C dX5_usablePages_15 rfl 0 rfl ?_
        refine z_zaldN C dX5_usablePages_16 rfl (by omega) (by decide) ?_
        refine z_if_eq (tgt := 26) C dX5_usablePages_17 (by decide) (fun h17 => ?_) (fun h17 => ?_)
        · skip
          refine z_iload_n C dX5_usablePages_26 rfl 1 rfl ?_
          refine z_casti (y := nI (r_sum (fun p => if r.2.2 0 p = 0 then 0 else 1) (z + 1))) (by show _ = nI (r_sum (fun p => if r.2.2 0 p = 0 then 0 else 1) z + (fun p => if r.2.2 0 p = 0 then 0 else 1) z); first | (rw [show (fun p => if r.2.2 0 p = 0 then 0 else 1) z = 0 from if_pos h17]; rfl) | (rw [show (fun p => if r.2.2 0 p = 0 then 0 else 1) z = 1 from if_neg h17]; exact nI_add _ _)) ?_
          refine z_istore_n (lv' := [(1, .int (nI (r_sum (fun p => if r.2.2 0 p = 0 then 0 else 1) (z + 1)))), (2, .int (nI z)), (0, .ref (base + 16))]) C dX5_usablePages_27 rfl (by decide) rfl ?_
          refine z_iinc (k := 1) (v := nI (z + 1)) (lv' := [(2, .int (nI (z + 1))), (1, .int (nI (r_sum (fun p => if r.2.2 0 p = 0 then 0 else 1) (z + 1)))), (0, .ref (base + 16))]) C dX5_usablePages_28 rfl (nI_1 z) (by decide) rfl ?_
          refine z_goto (tgt := 4) C dX5_usablePages_31 (by decide) ?_
          refine z_lv (lv' := [(2, .int (nI (z + 1))), (1, .int (nI (r_sum (fun p => if r.2.2 0 p = 0 then 0 else 1) (z + 1)))), (0, .ref (base + 16))]) [0, 1, 2] rfl ?_
          exact ih (z + 1) (by omega) (by omega)
        · skip
          refine z_iload_n C dX5_usablePages_20 rfl 1 rfl ?_
          refine z_iconst (v := 1) C dX5_usablePages_21 (by decide) ?_
          refine z_iadd C dX5_usablePages_22 ?_
          refine z_goto (tgt := 27) C dX5_usablePages_23 (by decide) ?_
          refine z_casti (y := nI (r_sum (fun p => if r.2.2 0 p = 0 then 0 else 1) (z + 1))) (by show _ = nI (r_sum (fun p => if r.2.2 0 p = 0 then 0 else 1) z + (fun p => if r.2.2 0 p = 0 then 0 else 1) z); first | (rw [show (fun p => if r.2.2 0 p = 0 then 0 else 1) z = 0 from if_pos h17]; rfl) | (rw [show (fun p => if r.2.2 0 p = 0 then 0 else 1) z = 1 from if_neg h17]; exact nI_add _ _)) ?_
          refine z_istore_n (lv' := [(1, .int (nI (r_sum (fun p => if r.2.2 0 p = 0 then 0 else 1) (z + 1)))), (2, .int (nI z)), (0, .ref (base + 16))]) C dX5_usablePages_27 rfl (by decide) rfl ?_
          refine z_iinc (k := 1) (v := nI (z + 1)) (lv' := [(2, .int (nI (z + 1))), (1, .int (nI (r_sum (fun p => if r.2.2 0 p = 0 then 0 else 1) (z + 1)))), (0, .ref (base + 16))]) C dX5_usablePages_28 rfl (nI_1 z) (by decide) rfl ?_
          refine z_goto (tgt := 4) C dX5_usablePages_31 (by decide) ?_
          refine z_lv (lv' := [(2, .int (nI (z + 1))), (1, .int (nI (r_sum (fun p => if r.2.2 0 p = 0 then 0 else 1) (z + 1)))), (0, .ref (base + 16))]) [0, 1, 2] rfl ?_
          exact ih (z + 1) (by omega) (by omega)
  exact loop 257 0 (by omega) (by omega)

set_option maxHeartbeats 4000000 in
set_option maxRecDepth 100000 in
theorem m_X5_isFirst (l : Launch) (G : z_G) (base : Nat) (xs : Nat → va_E) (r : r_T) (tl : List va_E) (hfo : ∀ p, r.2.1 1 p < 256) (z : Nat) (hz : z < 256) : z_M l G base yX5_isFirst cX5_isFirst 2 (some .boolean) 1 0 0 [.ref (base + 16), .int (nI z)] (hpM G base xs r tl) (fun v hp' => v = some (.int (bI (r_first r z))) ∧ hp' = hpM G base xs r tl) := by
  refine z_M.of (lv0 := [(0, .ref (base + 16)), (1, .int (nI z))]) (by decide) (Nat.le_of_ble_eq_true rfl) rfl ?_
  intro p e s m below meth c hmn hrt C
  refine z_aload_n C dX5_isFirst_0 rfl 0 rfl ?_
  refine z_get C fl_X5_58 dX5_isFirst_1 rfl rfl ?_
  refine z_if_eq (tgt := 41) C dX5_isFirst_4 (by decide) (fun h4 => ?_) (fun h4 => ?_)
  · skip
    refine z_iconst (v := 0) C dX5_isFirst_41 (by decide) ?_
    exact z_iret C hrt rfl dX5_isFirst_42 (by decide) (by decide) (⟨by unfold r_first; rw [← bI_f (by first | exact fun q => q.1 h4 | exact fun q => q.2.1 h24 | exact fun q => h34 (by rw [q.2.2]))], rfl⟩)
  · skip
    refine z_iload_n C dX5_isFirst_7 rfl 1 rfl ?_
    refine z_iconst (v := 0) C dX5_isFirst_8 (by decide) ?_
    refine z_sipush (v := 255) C dX5_isFirst_9 (by decide) ?_
    refine z_callS (rest := []) C (m_X5_in l G base _ (nI z) ((0 : Int32)) ((255 : Int32))) ml_X5_62 kw_X5_in rfl rfl (by simp [Value.category]) dX5_isFirst_12 (by decide) (by decide) (by decide) (by decide) ?_
    rintro _ _ ⟨rfl, rfl⟩
    refine z_st (st' := [.int ((bI (decide (0 ≤ nI z ∧ nI z ≤ 255))))]) rfl ?_
    refine z_if_eq (tgt := 41) C dX5_isFirst_15 (by decide) (fun h15 => absurd h15 (fun q => bI_eq q (⟨nI_pos' (by omega), nI_le (b := 255) (by omega) (by decide)⟩ : (0 : Int32) ≤ nI z ∧ nI z ≤ 255))) (fun h15 => ?_)
    refine z_aload_n C dX5_isFirst_18 rfl 0 rfl ?_
    refine z_get C fl_X5_13 dX5_isFirst_19 rfl rfl ?_
    refine z_iload_n C dX5_isFirst_22 rfl 1 rfl ?_
    refine z_zaldN C dX5_isFirst_23 rfl (by omega) (by decide) ?_
    refine z_if_eq (tgt := 41) C dX5_isFirst_24 (by decide) (fun h24 => ?_) (fun h24 => ?_)
    · skip
      refine z_iconst (v := 0) C dX5_isFirst_41 (by decide) ?_
      exact z_iret C hrt rfl dX5_isFirst_42 (by decide) (by decide) (⟨by unfold r_first; rw [← bI_f (by first | exact fun q => q.1 h4 | exact fun q => q.2.1 h24 | exact fun q => h34 (by rw [q.2.2]))], rfl⟩)
    · skip
      refine z_aload_n C dX5_isFirst_27 rfl 0 rfl ?_
      refine z_get C fl_X5_17 dX5_isFirst_28 rfl rfl ?_
      refine z_iload_n C dX5_isFirst_31 rfl 1 rfl ?_
      refine z_ialdK C dX5_isFirst_32 rfl (by omega) (by decide) ?_
      refine z_iload_n C dX5_isFirst_33 rfl 1 rfl ?_
      refine z_icmp_ne (tgt := 41) C dX5_isFirst_34 (by decide) (fun h34 => ?_) (fun h34 => ?_)
      · skip
        refine z_iconst (v := 0) C dX5_isFirst_41 (by decide) ?_
        exact z_iret C hrt rfl dX5_isFirst_42 (by decide) (by decide) (⟨by unfold r_first; rw [← bI_f (by first | exact fun q => q.1 h4 | exact fun q => q.2.1 h24 | exact fun q => h34 (by rw [q.2.2]))], rfl⟩)
      · skip
        refine z_iconst (v := 1) C dX5_isFirst_37 (by decide) ?_
        refine z_goto (tgt := 42) C dX5_isFirst_38 (by decide) ?_
        exact z_iret C hrt rfl dX5_isFirst_42 (by decide) (by decide) (⟨by unfold r_first; rw [← bI_t ⟨h4, h24, (nI_eq (Nat.lt_trans (hfo z) (by decide)) (by omega)).mp h34⟩], rfl⟩)

set_option maxHeartbeats 4000000 in
set_option maxRecDepth 100000 in
theorem m_X5_isFirst_out (l : Launch) (G : z_G) (base : Nat) (xs : Nat → va_E) (r : r_T) (tl : List va_E) (x : Int32) (hx : ¬ (0 ≤ x ∧ x ≤ 255)) : z_M l G base yX5_isFirst cX5_isFirst 2 (some .boolean) 1 0 0 [.ref (base + 16), .int (x)] (hpM G base xs r tl) (fun v hp' => v = some (.int (0)) ∧ hp' = hpM G base xs r tl) := by
  refine z_M.of (lv0 := [(0, .ref (base + 16)), (1, .int (x))]) (by decide) (Nat.le_of_ble_eq_true rfl) rfl ?_
  intro p e s m below meth c hmn hrt C
  refine z_aload_n C dX5_isFirst_0 rfl 0 rfl ?_
  refine z_get C fl_X5_58 dX5_isFirst_1 rfl rfl ?_
  refine z_if_eq (tgt := 41) C dX5_isFirst_4 (by decide) (fun h4 => ?_) (fun h4 => ?_)
  · skip
    refine z_iconst (v := 0) C dX5_isFirst_41 (by decide) ?_
    exact z_iret C hrt rfl dX5_isFirst_42 (by decide) (by decide) (⟨rfl, rfl⟩)
  · skip
    refine z_iload_n C dX5_isFirst_7 rfl 1 rfl ?_
    refine z_iconst (v := 0) C dX5_isFirst_8 (by decide) ?_
    refine z_sipush (v := 255) C dX5_isFirst_9 (by decide) ?_
    refine z_callS (rest := []) C (m_X5_in l G base _ (x) ((0 : Int32)) ((255 : Int32))) ml_X5_62 kw_X5_in rfl rfl (by simp [Value.category]) dX5_isFirst_12 (by decide) (by decide) (by decide) (by decide) ?_
    rintro _ _ ⟨rfl, rfl⟩
    refine z_st (st' := [.int ((bI (decide ((0 : Int32) ≤ x ∧ x ≤ (255 : Int32)))))]) rfl ?_
    refine z_if_eq (tgt := 41) C dX5_isFirst_15 (by decide) (fun h15 => ?_) (fun h15 => absurd h15 (fun q => q (by rw [← bI_f hx])))
    refine z_iconst (v := 0) C dX5_isFirst_41 (by decide) ?_
    exact z_iret C hrt rfl dX5_isFirst_42 (by decide) (by decide) (⟨rfl, rfl⟩)

set_option maxHeartbeats 4000000 in
set_option maxRecDepth 100000 in
theorem m_X5_isFree (l : Launch) (G : z_G) (base : Nat) (xs : Nat → va_E) (r : r_T) (tl : List va_E) (hfo : ∀ p, r.2.1 1 p < 256) (z : Nat) (hz : z < 256) : z_M l G base yX5_isFree cX5_isFree 2 (some .boolean) 2 0 0 [.ref (base + 16), .int (nI z)] (hpM G base xs r tl) (fun v hp' => v = some (.int (bI (r_free r z))) ∧ hp' = hpM G base xs r tl) := by
  refine z_M.of (lv0 := [(0, .ref (base + 16)), (1, .int (nI z))]) (by decide) (Nat.le_of_ble_eq_true rfl) rfl ?_
  intro p e s m below meth c hmn hrt C
  refine z_aload_n C dX5_isFree_0 rfl 0 rfl ?_
  refine z_iload_n C dX5_isFree_1 rfl 1 rfl ?_
  refine z_callV (rest := []) C (m_X5_isFirst l G base xs r tl hfo z (by omega)) ml_X5_78 kw_X5_isFirst rfl rfl rfl rfl (by simp [Value.category]) dX5_isFree_2 (by decide) (by decide) (by decide) (by decide) ?_
  rintro _ _ ⟨rfl, rfl⟩
  refine z_st (st' := [.int ((bI (r_first r z)))]) rfl ?_
  refine z_if_eq (tgt := 21) C dX5_isFree_5 (by decide) (fun h5 => ?_) (fun h5 => ?_)
  · skip
    refine z_iconst (v := 0) C dX5_isFree_21 (by decide) ?_
    exact z_iret C hrt rfl dX5_isFree_22 (by decide) (by decide) (⟨by unfold r_free; rw [← bI_f (by first | (exact fun q => by rw [bI_ff h5] at q; exact Bool.noConfusion q.1) | exact fun q => h14 q.2)], rfl⟩)
  · skip
    refine z_aload_n C dX5_isFree_8 rfl 0 rfl ?_
    refine z_get C fl_X5_23 dX5_isFree_9 rfl rfl ?_
    refine z_iload_n C dX5_isFree_12 rfl 1 rfl ?_
    refine z_zaldN C dX5_isFree_13 rfl (by omega) (by decide) ?_
    refine z_if_ne (tgt := 21) C dX5_isFree_14 (by decide) (fun h14 => ?_) (fun h14 => ?_)
    · skip
      refine z_iconst (v := 0) C dX5_isFree_21 (by decide) ?_
      exact z_iret C hrt rfl dX5_isFree_22 (by decide) (by decide) (⟨by unfold r_free; rw [← bI_f (by first | (exact fun q => by rw [bI_ff h5] at q; exact Bool.noConfusion q.1) | exact fun q => h14 q.2)], rfl⟩)
    · skip
      refine z_iconst (v := 1) C dX5_isFree_17 (by decide) ?_
      refine z_goto (tgt := 22) C dX5_isFree_18 (by decide) ?_
      exact z_iret C hrt rfl dX5_isFree_22 (by decide) (by decide) (⟨by unfold r_free; rw [← bI_t ⟨bI_nt h5, h14⟩], rfl⟩)

set_option maxHeartbeats 4000000 in
set_option maxRecDepth 100000 in
theorem m_X5_freePageCount (l : Launch) (G : z_G) (base : Nat) (xs : Nat → va_E) (r : r_T) (tl : List va_E) (hfo : ∀ p, r.2.1 1 p < 256) (hoo : ∀ p, r.2.1 2 p ≤ 6) : z_M l G base yX5_freePageCount cX5_freePageCount 3 (some .int) 3 0 0 [.ref (base + 16)] (hpM G base xs r tl) (fun v hp' => v = some (.int (nI (r_sum (fun p => if r_free r p = true then 2 ^ r.2.1 2 p else 0) 256))) ∧ hp' = hpM G base xs r tl) := by
  refine z_M.of (lv0 := [(0, .ref (base + 16))]) (by decide) (Nat.le_of_ble_eq_true rfl) rfl ?_
  intro p e s m below meth c hmn hrt C
  refine z_iconst (v := 0) C dX5_freePageCount_0 (by decide) ?_
  refine z_casti (y := nI 0) (rfl) ?_
  refine z_istore_n (lv' := [(1, .int (nI 0)), (0, .ref (base + 16))]) C dX5_freePageCount_1 rfl (by decide) rfl ?_
  refine z_iconst (v := 0) C dX5_freePageCount_2 (by decide) ?_
  refine z_casti (y := nI 0) (rfl) ?_
  refine z_istore_n (lv' := [(2, .int (nI 0)), (1, .int (nI 0)), (0, .ref (base + 16))]) C dX5_freePageCount_3 rfl (by decide) rfl ?_
  refine z_lv (lv' := [(2, .int (nI 0)), (1, .int (nI 0)), (0, .ref (base + 16))]) [0, 1, 2] rfl ?_
  have loop : ∀ (n : Nat) (z : Nat), (z ≤ 256) → (257 ≤ n + z) → z_R p l e (z_rm 3 0 0) s m ([Value.ref (base + 16)] : List Value).toArray below meth c (MQ below (z_Qc G base (fun v hp' => v = some (.int (nI (r_sum (fun p => if r_free r p = true then 2 ^ r.2.1 2 p else 0) 256))) ∧ hp' = hpM G base xs r tl)) ([Value.ref (base + 16)] : List Value).toArray s 0 0 (fun z => base ≤ z)) G base 3 0 0 4 [(2, .int (nI z)), (1, .int (nI (r_sum (fun p => if r_free r p = true then 2 ^ r.2.1 2 p else 0) z))), (0, .ref (base + 16))] [] (hpM G base xs r tl) := by
    intro n
    induction n with
    | zero => intro z hz hn0; exact absurd hn0 (by omega)
    | succ n ih =>
      intro z hz hn0
      refine z_iload_n C dX5_freePageCount_4 rfl 0 rfl ?_
      refine z_sipush (v := 256) C dX5_freePageCount_5 (by decide) ?_
      refine z_icmp_ge (tgt := 40) C dX5_freePageCount_8 (by decide) (fun h8 => ?_) (fun h8 => ?_)
      · skip
        have ze : z = 256 := by
          rcases Nat.lt_or_ge z 256 with q9 | q9
          · exact absurd h8 (nI_ge q9 (by decide))
          · omega
        refine z_iload_n C dX5_freePageCount_40 rfl 1 rfl ?_
        exact z_iret C hrt rfl dX5_freePageCount_41 (by decide) (by decide) (⟨by rw [ze], rfl⟩)
      · skip
        have zl : z < 256 := by
          rcases Nat.lt_or_ge z 256 with q9 | q9
          · exact q9
          · exact absurd (nI_le (a := 256) (b := z) q9 (by omega)) h8
        refine z_aload_n C dX5_freePageCount_11 rfl 2 rfl ?_
        refine z_iload_n C dX5_freePageCount_12 rfl 0 rfl ?_
        refine z_callV (rest := []) C (m_X5_isFree l G base xs r tl hfo z (by omega)) ml_X5_82 kw_X5_isFree rfl rfl rfl rfl (by simp [Value.category]) dX5_freePageCount_13 (by decide) (by decide) (by decide) (by decide) ?_
        rintro _ _ ⟨rfl, rfl⟩
        refine z_st (st' := [.int ((bI (r_free r z)))]) rfl ?_
        refine z_if_eq (tgt := 32) C dX5_freePageCount_16 (by decide) (fun h16 => ?_) (fun h16 => ?_)
        · skip
          refine z_iload_n C dX5_freePageCount_32 rfl 1 rfl ?_
          refine z_casti (y := nI (r_sum (fun p => if r_free r p = true then 2 ^ r.2.1 2 p else 0) (z + 1))) (by show _ = nI (r_sum (fun p => if r_free r p = true then 2 ^ r.2.1 2 p else 0) z + (fun p => if r_free r p = true then 2 ^ r.2.1 2 p else 0) z); first | (rw [show (fun p => if r_free r p = true then 2 ^ r.2.1 2 p else 0) z = 0 from if_neg (by rw [bI_ff h16]; exact Bool.false_ne_true)]; rfl) | (rw [show (fun p => if r_free r p = true then 2 ^ r.2.1 2 p else 0) z = 2 ^ r.2.1 2 z from if_pos (bI_nt h16)]; exact nI_add _ _)) ?_
          refine z_istore_n (lv' := [(1, .int (nI (r_sum (fun p => if r_free r p = true then 2 ^ r.2.1 2 p else 0) (z + 1)))), (2, .int (nI z)), (0, .ref (base + 16))]) C dX5_freePageCount_33 rfl (by decide) rfl ?_
          refine z_iinc (k := 1) (v := nI (z + 1)) (lv' := [(2, .int (nI (z + 1))), (1, .int (nI (r_sum (fun p => if r_free r p = true then 2 ^ r.2.1 2 p else 0) (z + 1)))), (0, .ref (base + 16))]) C dX5_freePageCount_34 rfl (nI_1 z) (by decide) rfl ?_
          refine z_goto (tgt := 4) C dX5_freePageCount_37 (by decide) ?_
          refine z_lv (lv' := [(2, .int (nI (z + 1))), (1, .int (nI (r_sum (fun p => if r_free r p = true then 2 ^ r.2.1 2 p else 0) (z + 1)))), (0, .ref (base + 16))]) [0, 1, 2] rfl ?_
          exact ih (z + 1) (by omega) (by omega)
        · skip
          refine z_iload_n C dX5_freePageCount_19 rfl 1 rfl ?_
          refine z_iconst (v := 1) C dX5_freePageCount_20 (by decide) ?_
          refine z_aload_n C dX5_freePageCount_21 rfl 2 rfl ?_
          refine z_get C fl_X5_20 dX5_freePageCount_22 rfl rfl ?_
          refine z_iload_n C dX5_freePageCount_25 rfl 0 rfl ?_
          refine z_ialdK C dX5_freePageCount_26 rfl (by omega) (by decide) ?_
          refine z_ishl C dX5_freePageCount_27 ?_
          refine z_casti (y := nI (2 ^ r.2.1 2 z)) (nI_1lt _ (by have := hoo z; omega)) ?_
          refine z_iadd C dX5_freePageCount_28 ?_
          refine z_goto (tgt := 33) C dX5_freePageCount_29 (by decide) ?_
          refine z_casti (y := nI (r_sum (fun p => if r_free r p = true then 2 ^ r.2.1 2 p else 0) (z + 1))) (by show _ = nI (r_sum (fun p => if r_free r p = true then 2 ^ r.2.1 2 p else 0) z + (fun p => if r_free r p = true then 2 ^ r.2.1 2 p else 0) z); first | (rw [show (fun p => if r_free r p = true then 2 ^ r.2.1 2 p else 0) z = 0 from if_neg (by rw [bI_ff h16]; exact Bool.false_ne_true)]; rfl) | (rw [show (fun p => if r_free r p = true then 2 ^ r.2.1 2 p else 0) z = 2 ^ r.2.1 2 z from if_pos (bI_nt h16)]; exact nI_add _ _)) ?_
          refine z_istore_n (lv' := [(1, .int (nI (r_sum (fun p => if r_free r p = true then 2 ^ r.2.1 2 p else 0) (z + 1)))), (2, .int (nI z)), (0, .ref (base + 16))]) C dX5_freePageCount_33 rfl (by decide) rfl ?_
          refine z_iinc (k := 1) (v := nI (z + 1)) (lv' := [(2, .int (nI (z + 1))), (1, .int (nI (r_sum (fun p => if r_free r p = true then 2 ^ r.2.1 2 p else 0) (z + 1)))), (0, .ref (base + 16))]) C dX5_freePageCount_34 rfl (nI_1 z) (by decide) rfl ?_
          refine z_goto (tgt := 4) C dX5_freePageCount_37 (by decide) ?_
          refine z_lv (lv' := [(2, .int (nI (z + 1))), (1, .int (nI (r_sum (fun p => if r_free r p = true then 2 ^ r.2.1 2 p else 0) (z + 1)))), (0, .ref (base + 16))]) [0, 1, 2] rfl ?_
          exact ih (z + 1) (by omega) (by omega)
  exact loop 257 0 (by omega) (by omega)

set_option maxHeartbeats 4000000 in
set_option maxRecDepth 100000 in
theorem m_X5_freeBlocks (l : Launch) (G : z_G) (base : Nat) (xs : Nat → va_E) (r : r_T) (tl : List va_E) (hfo : ∀ p, r.2.1 1 p < 256) (hoo : ∀ p, r.2.1 2 p ≤ 6) (k : Nat) (hk : k ≤ 6) : z_M l G base yX5_freeBlocks cX5_freeBlocks 4 (some .int) 3 0 0 [.ref (base + 16), .int (nI k)] (hpM G base xs r tl) (fun v hp' => v = some (.int (nI (r_sum (fun p => if r_free r p = true ∧ r.2.1 2 p = k then 1 else 0) 256))) ∧ hp' = hpM G base xs r tl) := by
  refine z_M.of (lv0 := [(0, .ref (base + 16)), (1, .int (nI k))]) (by decide) (Nat.le_of_ble_eq_true rfl) rfl ?_
  intro p e s m below meth c hmn hrt C
  refine z_iload_n C dX5_freeBlocks_0 rfl 1 rfl ?_
  refine z_iconst (v := 0) C dX5_freeBlocks_1 (by decide) ?_
  refine z_bipush (v := 6) C dX5_freeBlocks_2 (by decide) ?_
  refine z_callS (rest := []) C (m_X5_in l G base _ (nI k) ((0 : Int32)) ((6 : Int32))) ml_X5_62 kw_X5_in rfl rfl (by simp [Value.category]) dX5_freeBlocks_4 (by decide) (by decide) (by decide) (by decide) ?_
  rintro _ _ ⟨rfl, rfl⟩
  refine z_st (st' := [.int ((bI (decide (0 ≤ nI k ∧ nI k ≤ 6))))]) rfl ?_
  refine z_if_ne (tgt := 12) C dX5_freeBlocks_7 (by decide) (fun h7 => ?_) (fun h7 => absurd h7 (fun q => bI_eq q ⟨nI_pos' (by omega), nI_le (b := 6) (by omega) (by decide)⟩))
  refine z_iconst (v := 0) C dX5_freeBlocks_12 (by decide) ?_
  refine z_casti (y := nI 0) (rfl) ?_
  refine z_istore_n (lv' := [(2, .int (nI 0)), (0, .ref (base + 16)), (1, .int (nI k))]) C dX5_freeBlocks_13 rfl (by decide) rfl ?_
  refine z_iconst (v := 0) C dX5_freeBlocks_14 (by decide) ?_
  refine z_casti (y := nI 0) (rfl) ?_
  refine z_istore_n (lv' := [(3, .int (nI 0)), (2, .int (nI 0)), (0, .ref (base + 16)), (1, .int (nI k))]) C dX5_freeBlocks_15 rfl (by decide) rfl ?_
  refine z_lv (lv' := [(3, .int (nI 0)), (2, .int (nI 0)), (0, .ref (base + 16)), (1, .int (nI k))]) [0, 1, 2, 3] rfl ?_
  have loop : ∀ (n : Nat) (z : Nat), (z ≤ 256) → (257 ≤ n + z) → z_R p l e (z_rm 3 0 0) s m ([Value.ref (base + 16), .int (nI k)] : List Value).toArray below meth c (MQ below (z_Qc G base (fun v hp' => v = some (.int (nI (r_sum (fun p => if r_free r p = true ∧ r.2.1 2 p = k then 1 else 0) 256))) ∧ hp' = hpM G base xs r tl)) ([Value.ref (base + 16), .int (nI k)] : List Value).toArray s 0 0 (fun z => base ≤ z)) G base 4 0 0 16 [(3, .int (nI z)), (2, .int (nI (r_sum (fun p => if r_free r p = true ∧ r.2.1 2 p = k then 1 else 0) z))), (0, .ref (base + 16)), (1, .int (nI k))] [] (hpM G base xs r tl) := by
    intro n
    induction n with
    | zero => intro z hz hn0; exact absurd hn0 (by omega)
    | succ n ih =>
      intro z hz hn0
      refine z_iload_n C dX5_freeBlocks_16 rfl 0 rfl ?_
      refine z_sipush (v := 256) C dX5_freeBlocks_17 (by decide) ?_
      refine z_icmp_ge (tgt := 55) C dX5_freeBlocks_20 (by decide) (fun h20 => ?_) (fun h20 => ?_)
      · skip
        have ze : z = 256 := by
          rcases Nat.lt_or_ge z 256 with q9 | q9
          · exact absurd h20 (nI_ge q9 (by decide))
          · omega
        refine z_iload_n C dX5_freeBlocks_55 rfl 1 rfl ?_
        exact z_iret C hrt rfl dX5_freeBlocks_56 (by decide) (by decide) (⟨by rw [ze], rfl⟩)
      · skip
        have zl : z < 256 := by
          rcases Nat.lt_or_ge z 256 with q9 | q9
          · exact q9
          · exact absurd (nI_le (a := 256) (b := z) q9 (by omega)) h20
        refine z_aload_n C dX5_freeBlocks_23 rfl 2 rfl ?_
        refine z_iload_n C dX5_freeBlocks_24 rfl 0 rfl ?_
        refine z_callV (rest := []) C (m_X5_isFree l G base xs r tl hfo z (by omega)) ml_X5_82 kw_X5_isFree rfl rfl rfl rfl (by simp [Value.category]) dX5_freeBlocks_25 (by decide) (by decide) (by decide) (by decide) ?_
        rintro _ _ ⟨rfl, rfl⟩
        refine z_st (st' := [.int ((bI (r_free r z)))]) rfl ?_
        refine z_if_eq (tgt := 47) C dX5_freeBlocks_28 (by decide) (fun h28 => ?_) (fun h28 => ?_)
        · skip
          refine z_iload_n C dX5_freeBlocks_47 rfl 1 rfl ?_
          refine z_casti (y := nI (r_sum (fun p => if r_free r p = true ∧ r.2.1 2 p = k then 1 else 0) (z + 1))) (by show _ = nI (r_sum (fun p => if r_free r p = true ∧ r.2.1 2 p = k then 1 else 0) z + (fun p => if r_free r p = true ∧ r.2.1 2 p = k then 1 else 0) z); first | (rw [show (fun p => if r_free r p = true ∧ r.2.1 2 p = k then 1 else 0) z = 0 from if_neg (by first | (rw [bI_ff h28]; exact fun q => Bool.noConfusion q.1) | exact fun q => h38 (by rw [q.2]))]; rfl) | (rw [show (fun p => if r_free r p = true ∧ r.2.1 2 p = k then 1 else 0) z = 1 from if_pos ⟨bI_nt h28, (nI_eq (by have := hoo z; omega) (by omega)).mp h38⟩]; exact nI_add _ _)) ?_
          refine z_istore_n (lv' := [(2, .int (nI (r_sum (fun p => if r_free r p = true ∧ r.2.1 2 p = k then 1 else 0) (z + 1)))), (3, .int (nI z)), (0, .ref (base + 16)), (1, .int (nI k))]) C dX5_freeBlocks_48 rfl (by decide) rfl ?_
          refine z_iinc (k := 1) (v := nI (z + 1)) (lv' := [(3, .int (nI (z + 1))), (2, .int (nI (r_sum (fun p => if r_free r p = true ∧ r.2.1 2 p = k then 1 else 0) (z + 1)))), (0, .ref (base + 16)), (1, .int (nI k))]) C dX5_freeBlocks_49 rfl (nI_1 z) (by decide) rfl ?_
          refine z_goto (tgt := 16) C dX5_freeBlocks_52 (by decide) ?_
          refine z_lv (lv' := [(3, .int (nI (z + 1))), (2, .int (nI (r_sum (fun p => if r_free r p = true ∧ r.2.1 2 p = k then 1 else 0) (z + 1)))), (0, .ref (base + 16)), (1, .int (nI k))]) [0, 1, 2, 3] rfl ?_
          exact ih (z + 1) (by omega) (by omega)
        · skip
          refine z_aload_n C dX5_freeBlocks_31 rfl 2 rfl ?_
          refine z_get C fl_X5_20 dX5_freeBlocks_32 rfl rfl ?_
          refine z_iload_n C dX5_freeBlocks_35 rfl 0 rfl ?_
          refine z_ialdK C dX5_freeBlocks_36 rfl (by omega) (by decide) ?_
          refine z_iload_n C dX5_freeBlocks_37 rfl 3 rfl ?_
          refine z_icmp_ne (tgt := 47) C dX5_freeBlocks_38 (by decide) (fun h38 => ?_) (fun h38 => ?_)
          · skip
            refine z_iload_n C dX5_freeBlocks_47 rfl 1 rfl ?_
            refine z_casti (y := nI (r_sum (fun p => if r_free r p = true ∧ r.2.1 2 p = k then 1 else 0) (z + 1))) (by show _ = nI (r_sum (fun p => if r_free r p = true ∧ r.2.1 2 p = k then 1 else 0) z + (fun p => if r_free r p = true ∧ r.2.1 2 p = k then 1 else 0) z); first | (rw [show (fun p => if r_free r p = true ∧ r.2.1 2 p = k then 1 else 0) z = 0 from if_neg (by first | (rw [bI_ff h28]; exact fun q => Bool.noConfusion q.1) | exact fun q => h38 (by rw [q.2]))]; rfl) | (rw [show (fun p => if r_free r p = true ∧ r.2.1 2 p = k then 1 else 0) z = 1 from if_pos ⟨bI_nt h28, (nI_eq (by have := hoo z; omega) (by omega)).mp h38⟩]; exact nI_add _ _)) ?_
            refine z_istore_n (lv' := [(2, .int (nI (r_sum (fun p => if r_free r p = true ∧ r.2.1 2 p = k then 1 else 0) (z + 1)))), (3, .int (nI z)), (0, .ref (base + 16)), (1, .int (nI k))]) C dX5_freeBlocks_48 rfl (by decide) rfl ?_
            refine z_iinc (k := 1) (v := nI (z + 1)) (lv' := [(3, .int (nI (z + 1))), (2, .int (nI (r_sum (fun p => if r_free r p = true ∧ r.2.1 2 p = k then 1 else 0) (z + 1)))), (0, .ref (base + 16)), (1, .int (nI k))]) C dX5_freeBlocks_49 rfl (nI_1 z) (by decide) rfl ?_
            refine z_goto (tgt := 16) C dX5_freeBlocks_52 (by decide) ?_
            refine z_lv (lv' := [(3, .int (nI (z + 1))), (2, .int (nI (r_sum (fun p => if r_free r p = true ∧ r.2.1 2 p = k then 1 else 0) (z + 1)))), (0, .ref (base + 16)), (1, .int (nI k))]) [0, 1, 2, 3] rfl ?_
            exact ih (z + 1) (by omega) (by omega)
          · skip
            refine z_iload_n C dX5_freeBlocks_41 rfl 1 rfl ?_
            refine z_iconst (v := 1) C dX5_freeBlocks_42 (by decide) ?_
            refine z_iadd C dX5_freeBlocks_43 ?_
            refine z_goto (tgt := 48) C dX5_freeBlocks_44 (by decide) ?_
            refine z_casti (y := nI (r_sum (fun p => if r_free r p = true ∧ r.2.1 2 p = k then 1 else 0) (z + 1))) (by show _ = nI (r_sum (fun p => if r_free r p = true ∧ r.2.1 2 p = k then 1 else 0) z + (fun p => if r_free r p = true ∧ r.2.1 2 p = k then 1 else 0) z); first | (rw [show (fun p => if r_free r p = true ∧ r.2.1 2 p = k then 1 else 0) z = 0 from if_neg (by first | (rw [bI_ff h28]; exact fun q => Bool.noConfusion q.1) | exact fun q => h38 (by rw [q.2]))]; rfl) | (rw [show (fun p => if r_free r p = true ∧ r.2.1 2 p = k then 1 else 0) z = 1 from if_pos ⟨bI_nt h28, (nI_eq (by have := hoo z; omega) (by omega)).mp h38⟩]; exact nI_add _ _)) ?_
            refine z_istore_n (lv' := [(2, .int (nI (r_sum (fun p => if r_free r p = true ∧ r.2.1 2 p = k then 1 else 0) (z + 1)))), (3, .int (nI z)), (0, .ref (base + 16)), (1, .int (nI k))]) C dX5_freeBlocks_48 rfl (by decide) rfl ?_
            refine z_iinc (k := 1) (v := nI (z + 1)) (lv' := [(3, .int (nI (z + 1))), (2, .int (nI (r_sum (fun p => if r_free r p = true ∧ r.2.1 2 p = k then 1 else 0) (z + 1)))), (0, .ref (base + 16)), (1, .int (nI k))]) C dX5_freeBlocks_49 rfl (nI_1 z) (by decide) rfl ?_
            refine z_goto (tgt := 16) C dX5_freeBlocks_52 (by decide) ?_
            refine z_lv (lv' := [(3, .int (nI (z + 1))), (2, .int (nI (r_sum (fun p => if r_free r p = true ∧ r.2.1 2 p = k then 1 else 0) (z + 1)))), (0, .ref (base + 16)), (1, .int (nI k))]) [0, 1, 2, 3] rfl ?_
            exact ih (z + 1) (by omega) (by omega)
  exact loop 257 0 (by omega) (by omega)

set_option maxHeartbeats 4000000 in
set_option maxRecDepth 100000 in
theorem m_X5_freeBlocks_out (l : Launch) (G : z_G) (base : Nat) (xs : Nat → va_E) (r : r_T) (tl : List va_E) (x : Int32) (hx : ¬ (0 ≤ x ∧ x ≤ 6)) : z_M l G base yX5_freeBlocks cX5_freeBlocks 4 (some .int) 3 0 0 [.ref (base + 16), .int (x)] (hpM G base xs r tl) (fun v hp' => v = some (.int (-1)) ∧ hp' = hpM G base xs r tl) := by
  refine z_M.of (lv0 := [(0, .ref (base + 16)), (1, .int (x))]) (by decide) (Nat.le_of_ble_eq_true rfl) rfl ?_
  intro p e s m below meth c hmn hrt C
  refine z_iload_n C dX5_freeBlocks_0 rfl 1 rfl ?_
  refine z_iconst (v := 0) C dX5_freeBlocks_1 (by decide) ?_
  refine z_bipush (v := 6) C dX5_freeBlocks_2 (by decide) ?_
  refine z_callS (rest := []) C (m_X5_in l G base _ (x) ((0 : Int32)) ((6 : Int32))) ml_X5_62 kw_X5_in rfl rfl (by simp [Value.category]) dX5_freeBlocks_4 (by decide) (by decide) (by decide) (by decide) ?_
  rintro _ _ ⟨rfl, rfl⟩
  refine z_st (st' := [.int ((bI (decide ((0 : Int32) ≤ x ∧ x ≤ (6 : Int32)))))]) rfl ?_
  refine z_if_ne (tgt := 12) C dX5_freeBlocks_7 (by decide) (fun h7 => absurd h7 (fun q => q (by rw [← bI_f hx]))) (fun h7 => ?_)
  refine z_iconst (v := -1) C dX5_freeBlocks_10 (by decide) ?_
  exact z_iret C hrt rfl dX5_freeBlocks_11 (by decide) (by decide) (⟨rfl, rfl⟩)

set_option maxHeartbeats 4000000 in
set_option maxRecDepth 100000 in
theorem m_X5_makeBlock (l : Launch) (G : z_G) (base : Nat) (xs : Nat → va_E) (r : r_T) (tl : List va_E) (P k : Nat) (b : Int32) (hk : k ≤ 6) (hP : P + 2 ^ k ≤ 256) (hb : vp_nar .boolean b = b) : z_M l G base yX5_makeBlock cX5_makeBlock 5 none 0 0 0 [.ref (base + 16), .int (nI P), .int (nI k), .int (b)] (hpM G base xs r tl) (fun v hp' => v = none ∧ hp' = hpM G base xs (r_mk r P k b) tl) := by
  refine z_M.of (lv0 := [(0, .ref (base + 16)), (1, .int (nI P)), (2, .int (nI k)), (3, .int (b))]) (by decide) (Nat.le_of_ble_eq_true rfl) rfl ?_
  intro p e s m below meth c hmn hrt C
  have hpos := Nat.two_pow_pos k
  refine z_iload_n C dX5_makeBlock_0 rfl 1 rfl ?_
  refine z_istore (lv' := [(4, .int (nI P)), (0, .ref (base + 16)), (1, .int (nI P)), (2, .int (nI k)), (3, .int (b))]) C dX5_makeBlock_1 (by decide) rfl ?_
  refine z_lv (lv' := [(4, .int (nI P)), (0, .ref (base + 16)), (1, .int (nI P)), (2, .int (nI k)), (3, .int (b))]) [0, 1, 2, 3, 4] rfl ?_
  have loop : ∀ (n : Nat) (z : Nat) (fo : Nat → Nat), (P ≤ z ∧ z ≤ P + 2 ^ k) → (P + 2 ^ k + 1 ≤ n + z) → (r_run fo P (P + 2 ^ k - z) z = r_run (r.2.1 1) P (2 ^ k) P) → z_R p l e (z_rm 0 0 0) s m ([Value.ref (base + 16), .int (nI P), .int (nI k), .int (b)] : List Value).toArray below meth c (MQ below (z_Qc G base (fun v hp' => v = none ∧ hp' = hpM G base xs (r_mk r P k b) tl)) ([Value.ref (base + 16), .int (nI P), .int (nI k), .int (b)] : List Value).toArray s 0 0 (fun z => base ≤ z)) G base 5 0 0 3 [(4, .int (nI z)), (0, .ref (base + 16)), (1, .int (nI P)), (2, .int (nI k)), (3, .int (b))] [] (hpM G base xs (r.1, va_up r.2.1 1 fo, r.2.2) tl) := by
    intro n
    induction n with
    | zero => intro z fo hz hn0 hv; exact absurd hn0 (by omega)
    | succ n ih =>
      intro z fo hz hn0 hv
      refine z_iload C dX5_makeBlock_3 0 rfl ?_
      refine z_iload_n C dX5_makeBlock_5 rfl 2 rfl ?_
      refine z_iconst (v := 1) C dX5_makeBlock_6 (by decide) ?_
      refine z_iload_n C dX5_makeBlock_7 rfl 3 rfl ?_
      refine z_ishl C dX5_makeBlock_8 ?_
      refine z_casti (y := nI (2 ^ k)) (nI_1lt k (by omega)) ?_
      refine z_iadd C dX5_makeBlock_9 ?_
      refine z_casti (y := nI (P + 2 ^ k)) (nI_add _ _) ?_
      refine z_icmp_ge (tgt := 27) C dX5_makeBlock_10 (by decide) (fun h10 => ?_) (fun h10 => ?_)
      · skip
        have ze : z = P + 2 ^ k := by
          rcases Nat.lt_or_ge z (P + 2 ^ k) with q9 | q9
          · exact absurd h10 (nI_ge q9 (by omega))
          · omega
        refine z_aload_n C dX5_makeBlock_27 rfl 1 rfl ?_
        refine z_get C fl_X5_20 dX5_makeBlock_28 rfl rfl ?_
        refine z_iload_n C dX5_makeBlock_31 rfl 2 rfl ?_
        refine z_iload_n C dX5_makeBlock_32 rfl 3 rfl ?_
        refine z_iastK C dX5_makeBlock_33 rfl (by omega) (by decide) ?_
        refine z_aload_n C dX5_makeBlock_34 rfl 1 rfl ?_
        refine z_get C fl_X5_23 dX5_makeBlock_35 rfl rfl ?_
        refine z_iload_n C dX5_makeBlock_38 rfl 2 rfl ?_
        refine z_iload_n C dX5_makeBlock_39 rfl 4 rfl ?_
        refine z_zastN C dX5_makeBlock_40 rfl (by omega) (by decide) ?_
        refine z_aload_n C dX5_makeBlock_41 rfl 1 rfl ?_
        refine z_get C fl_X5_26 dX5_makeBlock_42 rfl rfl ?_
        refine z_iload_n C dX5_makeBlock_45 rfl 2 rfl ?_
        refine z_iconst (v := -1) C dX5_makeBlock_46 (by decide) ?_
        refine z_iastN C dX5_makeBlock_47 rfl (by omega) (by decide) ?_
        exact z_vret C hrt dX5_makeBlock_48 (by decide) (by decide) (⟨rfl, by rw [ze, Nat.sub_self] at hv; unfold r_mk; rw [← hv, hb]; rfl⟩)
      · skip
        have zl : z < P + 2 ^ k := by
          rcases Nat.lt_or_ge z (P + 2 ^ k) with q9 | q9
          · exact q9
          · exact absurd (nI_le q9 (by omega)) h10
        refine z_aload_n C dX5_makeBlock_13 rfl 1 rfl ?_
        refine z_get C fl_X5_17 dX5_makeBlock_14 rfl rfl ?_
        refine z_iload C dX5_makeBlock_17 0 rfl ?_
        refine z_iload_n C dX5_makeBlock_19 rfl 2 rfl ?_
        refine z_iastK C dX5_makeBlock_20 rfl (by omega) (by decide) ?_
        refine z_iinc (k := 0) (v := nI (z + 1)) (lv' := [(4, .int (nI (z + 1))), (0, .ref (base + 16)), (1, .int (nI P)), (2, .int (nI k)), (3, .int (b))]) C dX5_makeBlock_21 rfl (nI_1 z) (by decide) rfl ?_
        refine z_goto (tgt := 3) C dX5_makeBlock_24 (by decide) ?_
        refine z_lv (lv' := [(4, .int (nI (z + 1))), (0, .ref (base + 16)), (1, .int (nI P)), (2, .int (nI k)), (3, .int (b))]) [0, 1, 2, 3, 4] rfl ?_
        refine z_hp (hp' := hpM G base xs (r.1, va_up r.2.1 1 (va_up fo z P), r.2.2) tl) rfl ?_
        exact ih (z + 1) _ (by omega) (by omega) (by rw [← hv, show P + 2 ^ k - z = (P + 2 ^ k - (z + 1)) + 1 by omega]; rfl)
  refine z_hp (hp' := hpM G base xs (r.1, va_up r.2.1 1 (r.2.1 1), r.2.2) tl) rfl ?_
  exact loop (2 ^ k + 1) P _ (by omega) (by omega) (by rw [Nat.add_sub_cancel_left])

set_option maxHeartbeats 4000000 in
set_option maxRecDepth 100000 in
theorem m_X5_takeBlock (l : Launch) (G : z_G) (base : Nat) (xs : Nat → va_E) (r : r_T) (tl : List va_E) (hfo : ∀ p, r.2.1 1 p < 256) (hoo : ∀ p, r.2.1 2 p ≤ 6) (hal : ∀ p, p < 256 → r_free r p = true → p + 2 ^ r.2.1 2 p ≤ 256) (k : Nat) (hk : k ≤ 6) : z_M l G base yX5_takeBlock cX5_takeBlock 6 (some .int) 4 0 0 [.ref (base + 16), .int (nI k)] (hpM G base xs r tl) (fun v hp' => v = some (.int (oI (r_tk r k))) ∧ hp' = hpM G base xs (r_tks r k) tl) := by
  refine z_M.of (lv0 := [(0, .ref (base + 16)), (1, .int (nI k))]) (by decide) (Nat.le_of_ble_eq_true rfl) rfl ?_
  intro p e s m below meth c hmn hrt C
  have cut : z_R p l e (z_rm 4 0 0) s m ([Value.ref (base + 16), .int (nI k)] : List Value).toArray below meth c (MQ below (z_Qc G base (fun v hp' => v = some (.int (oI (r_tk r k))) ∧ hp' = hpM G base xs (r_tks r k) tl)) ([Value.ref (base + 16), .int (nI k)] : List Value).toArray s 0 0 (fun z => base ≤ z)) G base 6 0 0 34 [(2, .int (bI (decide (r.1 2 = 0)))), (0, .ref (base + 16)), (1, .int (nI k))] [] (hpM G base xs (upd r.1 2 (r_arm (r.1 2)), r.2) tl) := by
    refine z_iconst (v := -1) C dX5_takeBlock_34 (by decide) ?_
    refine z_casti (y := oI none) (rfl) ?_
    refine z_istore_n (lv' := [(3, .int (oI none)), (2, .int (bI (decide (r.1 2 = 0)))), (0, .ref (base + 16)), (1, .int (nI k))]) C dX5_takeBlock_35 rfl (by decide) rfl ?_
    refine z_iload_n C dX5_takeBlock_36 rfl 3 rfl ?_
    refine z_istore (lv' := [(4, .int (nI k)), (3, .int (oI none)), (2, .int (bI (decide (r.1 2 = 0)))), (0, .ref (base + 16)), (1, .int (nI k))]) C dX5_takeBlock_37 (by decide) rfl ?_
    refine z_lv (lv' := [(4, .int (nI k)), (3, .int (oI none)), (0, .ref (base + 16)), (1, .int (nI k)), (2, .int (bI (decide (r.1 2 = 0))))]) [0, 1, 3, 4, 2] rfl ?_
    have loop : ∀ (n : Nat) (o : Nat) (b : Option Nat), (k ≤ o ∧ o ≤ 7) → (8 ≤ n + o) → (∀ p, b = some p → p < 256) → (r_best r (7 - k) k = r_or b (r_best r (7 - o) o)) → z_R p l e (z_rm 4 0 0) s m ([Value.ref (base + 16), .int (nI k)] : List Value).toArray below meth c (MQ below (z_Qc G base (fun v hp' => v = some (.int (oI (r_tk r k))) ∧ hp' = hpM G base xs (r_tks r k) tl)) ([Value.ref (base + 16), .int (nI k)] : List Value).toArray s 0 0 (fun z => base ≤ z)) G base 6 0 0 39 [(4, .int (nI o)), (3, .int (oI b)), (0, .ref (base + 16)), (1, .int (nI k)), (2, .int (bI (decide (r.1 2 = 0))))] [] (hpM G base xs (upd r.1 2 (r_arm (r.1 2)), r.2) tl) := by
      intro n
      induction n with
      | zero => intro o b ho hn0 hb hv; exact absurd hn0 (by omega)
      | succ n ih =>
        intro o b ho hn0 hb hv
        have iho := ih
        refine z_iload C dX5_takeBlock_39 0 rfl ?_
        refine z_bipush (v := 6) C dX5_takeBlock_41 (by decide) ?_
        refine z_icmp_gt (tgt := 100) C dX5_takeBlock_43 (by decide) (fun h43 => ?_) (fun h43 => ?_)
        · skip
          rcases b with _ | P
          · skip
            refine z_lv (lv' := [(2, .int (bI (decide (r.1 2 = 0)))), (3, .int ((-1 : Int32))), (0, .ref (base + 16)), (1, .int (nI k))]) [4, 1, 2, 3] rfl ?_
            have hbe : True := trivial
            refine z_iload_n C dX5_takeBlock_100 rfl 0 rfl ?_
            refine z_if_ne (tgt := 108) C dX5_takeBlock_101 (by decide) (fun h101 => ?_) (fun h101 => ?_)
            · skip
              refine z_aload_n C dX5_takeBlock_108 rfl 2 rfl ?_
              refine z_dup C dX5_takeBlock_109 rfl ?_
              refine z_get C fl_X5_85 dX5_takeBlock_110 rfl rfl ?_
              refine z_iconst (v := 1) C dX5_takeBlock_113 (by decide) ?_
              refine z_iadd C dX5_takeBlock_114 ?_
              refine z_put C fl_X5_85 fp_X5 rfl dX5_takeBlock_115 rfl (by simp) rfl rfl ?_
              refine z_iconst (v := -1) C dX5_takeBlock_118 (by decide) ?_
              exact z_iret C hrt rfl dX5_takeBlock_119 (by decide) (by decide) (⟨by rw [show r_tk r k = none by unfold r_tk; first | rw [if_pos (bI_ne h101)] | (rw [if_neg (bI_eq h101), hv, show o = 7 by rcases Nat.lt_or_ge o 7 with q9 | q9; exact absurd h43 (nI_nlt (a := 6) (b := o) (by omega) (by decide)); omega]; rfl)]; rfl, by unfold r_tks; rw [show r_tk r k = none by unfold r_tk; first | rw [if_pos (bI_ne h101)] | (rw [if_neg (bI_eq h101), hv, show o = 7 by rcases Nat.lt_or_ge o 7 with q9 | q9; exact absurd h43 (nI_nlt (a := 6) (b := o) (by omega) (by decide)); omega]; rfl)]; rfl⟩)
            · skip
              refine z_iload_n C dX5_takeBlock_104 rfl 1 rfl ?_
              refine z_if_ge (tgt := 120) C dX5_takeBlock_105 (by decide) (fun h105 => absurd h105 (by decide)) (fun h105 => ?_)
              refine z_aload_n C dX5_takeBlock_108 rfl 2 rfl ?_
              refine z_dup C dX5_takeBlock_109 rfl ?_
              refine z_get C fl_X5_85 dX5_takeBlock_110 rfl rfl ?_
              refine z_iconst (v := 1) C dX5_takeBlock_113 (by decide) ?_
              refine z_iadd C dX5_takeBlock_114 ?_
              refine z_put C fl_X5_85 fp_X5 rfl dX5_takeBlock_115 rfl (by simp) rfl rfl ?_
              refine z_iconst (v := -1) C dX5_takeBlock_118 (by decide) ?_
              exact z_iret C hrt rfl dX5_takeBlock_119 (by decide) (by decide) (⟨by rw [show r_tk r k = none by unfold r_tk; first | rw [if_pos (bI_ne h101)] | (rw [if_neg (bI_eq h101), hv, show o = 7 by rcases Nat.lt_or_ge o 7 with q9 | q9; exact absurd h43 (nI_nlt (a := 6) (b := o) (by omega) (by decide)); omega]; rfl)]; rfl, by unfold r_tks; rw [show r_tk r k = none by unfold r_tk; first | rw [if_pos (bI_ne h101)] | (rw [if_neg (bI_eq h101), hv, show o = 7 by rcases Nat.lt_or_ge o 7 with q9 | q9; exact absurd h43 (nI_nlt (a := 6) (b := o) (by omega) (by decide)); omega]; rfl)]; rfl⟩)
          · skip
            refine z_lv (lv' := [(2, .int (bI (decide (r.1 2 = 0)))), (3, .int (nI P)), (0, .ref (base + 16)), (1, .int (nI k))]) [4, 1, 2, 3] rfl ?_
            have hbe : True := trivial
            refine z_iload_n C dX5_takeBlock_100 rfl 0 rfl ?_
            refine z_if_ne (tgt := 108) C dX5_takeBlock_101 (by decide) (fun h101 => ?_) (fun h101 => ?_)
            · skip
              refine z_aload_n C dX5_takeBlock_108 rfl 2 rfl ?_
              refine z_dup C dX5_takeBlock_109 rfl ?_
              refine z_get C fl_X5_85 dX5_takeBlock_110 rfl rfl ?_
              refine z_iconst (v := 1) C dX5_takeBlock_113 (by decide) ?_
              refine z_iadd C dX5_takeBlock_114 ?_
              refine z_put C fl_X5_85 fp_X5 rfl dX5_takeBlock_115 rfl (by simp) rfl rfl ?_
              refine z_iconst (v := -1) C dX5_takeBlock_118 (by decide) ?_
              exact z_iret C hrt rfl dX5_takeBlock_119 (by decide) (by decide) (⟨by rw [show r_tk r k = none by unfold r_tk; first | rw [if_pos (bI_ne h101)] | (rw [if_neg (bI_eq h101), hv, show o = 7 by rcases Nat.lt_or_ge o 7 with q9 | q9; exact absurd h43 (nI_nlt (a := 6) (b := o) (by omega) (by decide)); omega]; rfl)]; rfl, by unfold r_tks; rw [show r_tk r k = none by unfold r_tk; first | rw [if_pos (bI_ne h101)] | (rw [if_neg (bI_eq h101), hv, show o = 7 by rcases Nat.lt_or_ge o 7 with q9 | q9; exact absurd h43 (nI_nlt (a := 6) (b := o) (by omega) (by decide)); omega]; rfl)]; rfl⟩)
            · skip
              refine z_iload_n C dX5_takeBlock_104 rfl 1 rfl ?_
              refine z_if_ge (tgt := 120) C dX5_takeBlock_105 (by decide) (fun h105 => ?_) (fun h105 => absurd h105 (fun q => q (nI_pos' (by have := hb P rfl; omega))))
              have hPl : P < 256 := hb P rfl
              have hbs := r_best_some (7 - k) k P hv
              have hPf : r_free r P = true := hbs.2.1
              have hPo := hoo P
              refine z_aload_n C dX5_takeBlock_120 rfl 2 rfl ?_
              refine z_get C fl_X5_20 dX5_takeBlock_121 rfl rfl ?_
              refine z_iload_n C dX5_takeBlock_124 rfl 1 rfl ?_
              refine z_ialdK C dX5_takeBlock_125 rfl (by omega) (by decide) ?_
              refine z_casti (y := nI (k + (r.2.1 2 P - k))) (by rw [show k + (r.2.1 2 P - k) = r.2.1 2 P by omega]) ?_
              refine z_istore (lv' := [(4, .int (nI (k + (r.2.1 2 P - k)))), (2, .int (bI (decide (r.1 2 = 0)))), (3, .int (nI P)), (0, .ref (base + 16)), (1, .int (nI k))]) C dX5_takeBlock_126 (by decide) rfl ?_
              refine z_lv (lv' := [(4, .int (nI (k + (r.2.1 2 P - k)))), (3, .int (nI P)), (0, .ref (base + 16)), (1, .int (nI k))]) [0, 2, 3, 4] rfl ?_
              have loop3 : ∀ (n : Nat) (y : Nat) (r1 : r_T), (k + y ≤ 6) → (y + 1 ≤ n) → (P + 2 ^ (k + y) ≤ 256) → (∀ p, r1.2.1 1 p < 256) → (∀ p, r1.2.1 2 p ≤ 6) → (r_split P k y r1 = r_split P k (r.2.1 2 P - k) (upd r.1 2 (r_arm (r.1 2)), r.2)) → z_R p l e (z_rm 4 0 0) s m ([Value.ref (base + 16), .int (nI k)] : List Value).toArray below meth c (MQ below (z_Qc G base (fun v hp' => v = some (.int (oI (r_tk r k))) ∧ hp' = hpM G base xs (r_tks r k) tl)) ([Value.ref (base + 16), .int (nI k)] : List Value).toArray s 0 0 (fun z => base ≤ z)) G base 6 0 0 128 [(4, .int (nI (k + y))), (3, .int (nI P)), (0, .ref (base + 16)), (1, .int (nI k))] [] (hpM G base xs r1 tl) := by
                intro n
                induction n with
                | zero => intro y r1 hy hn0 hpw hfo1 hoo1 hv2; exact absurd hn0 (by omega)
                | succ n ih =>
                  intro y r1 hy hn0 hpw hfo1 hoo1 hv2
                  refine z_iload C dX5_takeBlock_128 0 rfl ?_
                  refine z_iload_n C dX5_takeBlock_130 rfl 3 rfl ?_
                  refine z_icmp_le (tgt := 153) C dX5_takeBlock_131 (by decide) (fun h131 => ?_) (fun h131 => ?_)
                  · skip
                    have hy0 : y = 0 := by
                      rcases Nat.eq_zero_or_pos y with q9 | q9
                      · exact q9
                      · exact absurd h131 (nI_ge (by omega) (by omega))
                    refine z_aload_n C dX5_takeBlock_153 rfl 2 rfl ?_
                    refine z_iload_n C dX5_takeBlock_154 rfl 1 rfl ?_
                    refine z_iload_n C dX5_takeBlock_155 rfl 3 rfl ?_
                    refine z_iconst (v := 1) C dX5_takeBlock_156 (by decide) ?_
                    refine z_callV (rest := []) C (m_X5_makeBlock l G base xs r1 tl P k 1 (by omega) (by rw [hy0] at hpw; exact hpw) rfl) ml_X5_70 kw_X5_makeBlock rfl rfl rfl rfl (by simp [Value.category]) dX5_takeBlock_157 (by decide) (by decide) (by decide) (by decide) ?_
                    rintro _ _ ⟨rfl, rfl⟩
                    refine z_st (st' := []) rfl ?_
                    have hfo2 := r_mk_fo (b := 1) (k := k) hfo1 hPl
                    have hoo2 := r_mk_oo (P := P) (b := 1) hoo1 hk
                    have hgot : r_mk r1 P k 1 = r_got (upd r.1 2 (r_arm (r.1 2)), r.2) P k := by unfold r_got; rw [show r1 = r_split P k 0 r1 from rfl, ← hy0, hv2]
                    have hsc : (r_mk r1 P k 1).1 = upd r.1 2 (r_arm (r.1 2)) := by rw [hgot]; exact r_got_sc _ _ _
                    refine z_aload_n C dX5_takeBlock_160 rfl 2 rfl ?_
                    refine z_dup C dX5_takeBlock_161 rfl ?_
                    refine z_get C fl_X5_88 dX5_takeBlock_162 rfl rfl ?_
                    refine z_iconst (v := 1) C dX5_takeBlock_165 (by decide) ?_
                    refine z_iadd C dX5_takeBlock_166 ?_
                    refine z_put C fl_X5_88 fp_X5 rfl dX5_takeBlock_167 rfl (by simp) rfl rfl ?_
                    refine z_hp (hp' := hpM G base xs (upd (r_mk r1 P k 1).1 4 ((r_mk r1 P k 1).1 4 + 1), (r_mk r1 P k 1).2) tl) (rfl) ?_
                    refine z_aload_n C dX5_takeBlock_170 rfl 2 rfl ?_
                    refine z_callV (rest := []) C (m_X5_usablePages l G base xs (upd (r_mk r1 P k 1).1 4 ((r_mk r1 P k 1).1 4 + 1), (r_mk r1 P k 1).2) tl) ml_X5_74 kw_X5_usablePages rfl rfl rfl rfl (by simp [Value.category]) dX5_takeBlock_171 (by decide) (by decide) (by decide) (by decide) ?_
                    rintro _ _ ⟨rfl, rfl⟩
                    refine z_st (st' := [.int (nI (r_sum (fun p => if (r_mk r1 P k 1).2.2 0 p = 0 then 0 else 1) 256))]) rfl ?_
                    refine z_aload_n C dX5_takeBlock_174 rfl 2 rfl ?_
                    refine z_callV (rest := [.int (nI (r_sum (fun p => if (r_mk r1 P k 1).2.2 0 p = 0 then 0 else 1) 256))]) C (m_X5_freePageCount l G base xs (upd (r_mk r1 P k 1).1 4 ((r_mk r1 P k 1).1 4 + 1), (r_mk r1 P k 1).2) tl hfo2 hoo2) ml_X5_91 kw_X5_freePageCount rfl rfl rfl rfl (by simp [Value.category]) dX5_takeBlock_175 (by decide) (by decide) (by decide) (by decide) ?_
                    rintro _ _ ⟨rfl, rfl⟩
                    refine z_st (st' := [.int (nI (r_sum (fun p => if r_free (r_mk r1 P k 1) p = true then 2 ^ (r_mk r1 P k 1).2.1 2 p else 0) 256)), .int (nI (r_sum (fun p => if (r_mk r1 P k 1).2.2 0 p = 0 then 0 else 1) 256))]) rfl ?_
                    refine z_isub C dX5_takeBlock_178 ?_
                    refine z_casti (y := r_used (r_mk r1 P k 1)) (rfl) ?_
                    refine z_istore (lv' := [(5, .int (r_used (r_mk r1 P k 1))), (4, .int (nI (k + y))), (3, .int (nI P)), (0, .ref (base + 16)), (1, .int (nI k))]) C dX5_takeBlock_179 (by decide) rfl ?_
                    refine z_aload_n C dX5_takeBlock_181 rfl 3 rfl ?_
                    refine z_iload C dX5_takeBlock_182 0 rfl ?_
                    refine z_aload_n C dX5_takeBlock_184 rfl 3 rfl ?_
                    refine z_get C fl_X5_94 dX5_takeBlock_185 rfl rfl ?_
                    refine z_icmp_le (tgt := 196) C dX5_takeBlock_188 (by decide) (fun h188 => ?_) (fun h188 => ?_)
                    · skip
                      refine z_aload_n C dX5_takeBlock_196 rfl 3 rfl ?_
                      refine z_get C fl_X5_94 dX5_takeBlock_197 rfl rfl ?_
                      refine z_casti (y := (if r.1 6 < r_used (r_mk r1 P k 1) then r_used (r_mk r1 P k 1) else r.1 6)) (by
                        have e6 : (r_mk r1 P k 1).1 6 = r.1 6 := by rw [hsc]; rfl
                        first | (rw [if_neg (Int32.not_lt.mpr (by rw [← e6]; exact h188))]; exact e6) | rw [if_pos (by rw [← e6]; exact Int32.not_le.mp h188)]) ?_
                      refine z_put C fl_X5_94 fp_X5 rfl dX5_takeBlock_200 rfl (by simp) rfl rfl ?_
                      refine z_iload_n C dX5_takeBlock_203 rfl 2 rfl ?_
                      exact z_iret C hrt rfl dX5_takeBlock_204 (by decide) (by decide) (⟨by rw [show r_tk r k = some P by unfold r_tk; rw [if_neg (bI_eq h101)]; exact hv]; rfl, by unfold r_tks; rw [show r_tk r k = some P by unfold r_tk; rw [if_neg (bI_eq h101)]; exact hv]; show _ = hpM G base xs (upd (upd (r_got (upd r.1 2 (r_arm (r.1 2)), r.2) P k).1 4 (r.1 4 + 1)) 6 (if r.1 6 < r_used (r_got (upd r.1 2 (r_arm (r.1 2)), r.2) P k) then r_used (r_got (upd r.1 2 (r_arm (r.1 2)), r.2) P k) else r.1 6), (r_got (upd r.1 2 (r_arm (r.1 2)), r.2) P k).2) tl; rw [← hgot, show (r.1 4 : Int32) = (r_mk r1 P k 1).1 4 by rw [hsc]; rfl]; rfl⟩)
                    · skip
                      refine z_iload C dX5_takeBlock_191 0 rfl ?_
                      refine z_goto (tgt := 200) C dX5_takeBlock_193 (by decide) ?_
                      refine z_casti (y := (if r.1 6 < r_used (r_mk r1 P k 1) then r_used (r_mk r1 P k 1) else r.1 6)) (by
                        have e6 : (r_mk r1 P k 1).1 6 = r.1 6 := by rw [hsc]; rfl
                        first | (rw [if_neg (Int32.not_lt.mpr (by rw [← e6]; exact h188))]; exact e6) | rw [if_pos (by rw [← e6]; exact Int32.not_le.mp h188)]) ?_
                      refine z_put C fl_X5_94 fp_X5 rfl dX5_takeBlock_200 rfl (by simp) rfl rfl ?_
                      refine z_iload_n C dX5_takeBlock_203 rfl 2 rfl ?_
                      exact z_iret C hrt rfl dX5_takeBlock_204 (by decide) (by decide) (⟨by rw [show r_tk r k = some P by unfold r_tk; rw [if_neg (bI_eq h101)]; exact hv]; rfl, by unfold r_tks; rw [show r_tk r k = some P by unfold r_tk; rw [if_neg (bI_eq h101)]; exact hv]; show _ = hpM G base xs (upd (upd (r_got (upd r.1 2 (r_arm (r.1 2)), r.2) P k).1 4 (r.1 4 + 1)) 6 (if r.1 6 < r_used (r_got (upd r.1 2 (r_arm (r.1 2)), r.2) P k) then r_used (r_got (upd r.1 2 (r_arm (r.1 2)), r.2) P k) else r.1 6), (r_got (upd r.1 2 (r_arm (r.1 2)), r.2) P k).2) tl; rw [← hgot, show (r.1 4 : Int32) = (r_mk r1 P k 1).1 4 by rw [hsc]; rfl]; rfl⟩)
                  · skip
                    obtain ⟨y1, rfl⟩ : ∃ y1, y = y1 + 1 := by
                      cases y with
                      | zero => exact absurd (nI_le (Nat.le_refl k) (by omega)) h131
                      | succ y1 => exact ⟨y1, rfl⟩
                    refine z_iinc (k := 0) (v := nI (k + y1)) (lv' := [(4, .int (nI (k + y1))), (3, .int (nI P)), (0, .ref (base + 16)), (1, .int (nI k))]) C dX5_takeBlock_134 rfl (by rw [add_m1]; exact nI_pred _) (by decide) rfl ?_
                    refine z_aload_n C dX5_takeBlock_137 rfl 2 rfl ?_
                    refine z_iload_n C dX5_takeBlock_138 rfl 1 rfl ?_
                    refine z_iconst (v := 1) C dX5_takeBlock_139 (by decide) ?_
                    refine z_iload C dX5_takeBlock_140 0 rfl ?_
                    refine z_ishl C dX5_takeBlock_142 ?_
                    refine z_casti (y := nI (2 ^ (k + y1))) (nI_1lt _ (by omega)) ?_
                    refine z_iadd C dX5_takeBlock_143 ?_
                    refine z_casti (y := nI (P + 2 ^ (k + y1))) (nI_add _ _) ?_
                    refine z_iload C dX5_takeBlock_144 0 rfl ?_
                    refine z_iconst (v := 0) C dX5_takeBlock_146 (by decide) ?_
                    refine z_callV (rest := []) C (m_X5_makeBlock l G base xs r1 tl (P + 2 ^ (k + y1)) (k + y1) 0 (by omega) (by rw [show k + (y1 + 1) = (k + y1) + 1 from rfl, Nat.pow_succ] at hpw; omega) rfl) ml_X5_70 kw_X5_makeBlock rfl rfl rfl rfl (by simp [Value.category]) dX5_takeBlock_147 (by decide) (by decide) (by decide) (by decide) ?_
                    rintro _ _ ⟨rfl, rfl⟩
                    refine z_st (st' := []) rfl ?_
                    refine z_goto (tgt := 128) C dX5_takeBlock_150 (by decide) ?_
                    refine z_lv (lv' := [(4, .int (nI (k + y1))), (3, .int (nI P)), (0, .ref (base + 16)), (1, .int (nI k))]) [0, 1, 2, 3] rfl ?_
                    exact ih y1 _ (by omega) (by omega) (by rw [show k + (y1 + 1) = (k + y1) + 1 from rfl, Nat.pow_succ] at hpw; omega) (r_mk_fo hfo1 (by have := Nat.two_pow_pos (k + y1); rw [show k + (y1 + 1) = (k + y1) + 1 from rfl, Nat.pow_succ] at hpw; omega)) (r_mk_oo hoo1 (by omega)) (by rw [← hv2]; rfl)
              exact loop3 7 (r.2.1 2 P - k) (upd r.1 2 (r_arm (r.1 2)), r.2) (by omega) (by omega) (by rw [show k + (r.2.1 2 P - k) = r.2.1 2 P by omega]; exact hal P hPl (by exact hPf)) hfo hoo rfl
        · skip
          have ho6 : o ≤ 6 := by
            rcases Nat.lt_or_ge o 7 with q9 | q9
            · omega
            · exact absurd (nI_lt (a := 6) (b := o) (by omega) (by omega)) h43
          rcases b with _ | P
          · skip
            refine z_iload_n C dX5_takeBlock_46 rfl 1 rfl ?_
            refine z_if_ge (tgt := 100) C dX5_takeBlock_47 (by decide) (fun h47 => absurd h47 (by decide)) (fun h47 => ?_)
            refine z_sipush (v := 255) C dX5_takeBlock_50 (by decide) ?_
            refine z_casti (y := (nI 256 - 1)) (by decide) ?_
            refine z_istore (lv' := [(5, .int ((nI 256 - 1))), (4, .int (nI o)), (3, .int ((-1 : Int32))), (0, .ref (base + 16)), (1, .int (nI k)), (2, .int (bI (decide (r.1 2 = 0))))]) C dX5_takeBlock_53 (by decide) rfl ?_
            refine z_lv (lv' := [(5, .int ((nI 256 - 1))), (3, .int ((-1 : Int32))), (0, .ref (base + 16)), (1, .int (nI k)), (2, .int (bI (decide (r.1 2 = 0)))), (4, .int (nI o))]) [0, 2, 3, 4, 5, 1] rfl ?_
            have loop2 : ∀ (n : Nat) (y : Nat) (b1 : Option Nat), (y ≤ 256) → (y + 1 ≤ n) → (∀ p, b1 = some p → p < 256) → (r_low (fun p => decide (r_free r p = true ∧ r.2.1 2 p = o)) y b1 = r_low (fun p => decide (r_free r p = true ∧ r.2.1 2 p = o)) 256 none) → z_R p l e (z_rm 4 0 0) s m ([Value.ref (base + 16), .int (nI k)] : List Value).toArray below meth c (MQ below (z_Qc G base (fun v hp' => v = some (.int (oI (r_tk r k))) ∧ hp' = hpM G base xs (r_tks r k) tl)) ([Value.ref (base + 16), .int (nI k)] : List Value).toArray s 0 0 (fun z => base ≤ z)) G base 6 0 0 55 [(5, .int ((nI y - 1))), (3, .int (oI b1)), (0, .ref (base + 16)), (1, .int (nI k)), (2, .int (bI (decide (r.1 2 = 0)))), (4, .int (nI o))] [] (hpM G base xs (upd r.1 2 (r_arm (r.1 2)), r.2) tl) := by
              intro n
              induction n with
              | zero => intro y b1 hy hn0 hb1 hlv; exact absurd hn0 (by omega)
              | succ n ih =>
                intro y b1 hy hn0 hb1 hlv
                have ihi := ih
                refine z_iload C dX5_takeBlock_55 0 rfl ?_
                refine z_if_lt (tgt := 94) C dX5_takeBlock_57 (by decide) (fun h57 => ?_) (fun h57 => ?_)
                · skip
                  have hy0 : y = 0 := by
                    rcases Nat.eq_zero_or_pos y with q9 | q9
                    · exact q9
                    · exact absurd h57 (by rw [show nI y - 1 = nI (y - 1) from pk_sub (b := 1) q9]; exact nI_pos (by omega))
                  subst hy0
                  have hlv0 : b1 = r_low (fun p => decide (r_free r p = true ∧ r.2.1 2 p = o)) 256 none := hlv
                  have hb2 : ∀ p, b1 = some p → p < 256 := hb1
                  have hbv : r_best r (7 - k) k = r_or b1 (r_best r (7 - (o + 1)) (o + 1)) := by
                    rw [hv, hlv0, show 7 - o = (7 - (o + 1)) + 1 by omega]
                    rfl
                  refine z_iinc (k := 5) (v := nI (o + 1)) (lv' := [(4, .int (nI (o + 1))), (5, .int ((nI 0 - 1))), (3, .int (oI b1)), (0, .ref (base + 16)), (1, .int (nI k)), (2, .int (bI (decide (r.1 2 = 0))))]) C dX5_takeBlock_94 rfl (nI_1 o) (by decide) rfl ?_
                  refine z_goto (tgt := 39) C dX5_takeBlock_97 (by decide) ?_
                  refine z_lv (lv' := [(4, .int (nI (o + 1))), (3, .int (oI b1)), (0, .ref (base + 16)), (1, .int (nI k)), (2, .int (bI (decide (r.1 2 = 0))))]) [0, 2, 3, 4, 5] rfl ?_
                  exact iho (o + 1) _ (by omega) (by omega) hb2 hbv
                · skip
                  obtain ⟨y1, rfl⟩ : ∃ y1, y = y1 + 1 := by
                    cases y with
                    | zero => exact absurd (by decide) h57
                    | succ y1 => exact ⟨y1, rfl⟩
                  refine z_lvq (lv' := [(5, .int (nI y1)), (3, .int (oI b1)), (0, .ref (base + 16)), (1, .int (nI k)), (2, .int (bI (decide (r.1 2 = 0)))), (4, .int (nI o))]) (by rw [show nI (y1 + 1) - 1 = nI y1 from nI_pred _]) ?_
                  refine z_aload_n C dX5_takeBlock_60 rfl 2 rfl ?_
                  refine z_iload C dX5_takeBlock_61 0 rfl ?_
                  refine z_callV (rest := []) C (m_X5_isFree l G base xs (upd r.1 2 (r_arm (r.1 2)), r.2) tl hfo y1 (by omega)) ml_X5_82 kw_X5_isFree rfl rfl rfl rfl (by simp [Value.category]) dX5_takeBlock_63 (by decide) (by decide) (by decide) (by decide) ?_
                  rintro _ _ ⟨rfl, rfl⟩
                  refine z_st (st' := [.int ((bI (r_free r y1)))]) rfl ?_
                  refine z_if_eq (tgt := 86) C dX5_takeBlock_66 (by decide) (fun h66 => ?_) (fun h66 => ?_)
                  · skip
                    refine z_iload_n C dX5_takeBlock_86 rfl 1 rfl ?_
                    refine z_casti (y := oI (if decide (r_free r y1 = true ∧ r.2.1 2 y1 = o) then some y1 else b1)) (by first | (rw [if_pos (decide_eq_true ⟨bI_nt h66, (nI_eq (by have := hoo y1; omega) (by omega)).mp h78⟩)]; rfl) | rw [if_neg (by rw [decide_eq_true_iff]; first | (rw [bI_ff h66]; exact fun q => Bool.noConfusion q.1) | exact fun q => h78 (by rw [q.2]))]) ?_
                    have hb3 : ∀ p, (if decide (r_free r y1 = true ∧ r.2.1 2 y1 = o) then some y1 else b1) = some p → p < 256 := fun p h => by
                      split at h
                      · cases h; omega
                      · exact hb1 p h
                    refine z_istore_n (lv' := [(3, .int (oI (if decide (r_free r y1 = true ∧ r.2.1 2 y1 = o) then some y1 else b1))), (5, .int (nI y1)), (0, .ref (base + 16)), (1, .int (nI k)), (2, .int (bI (decide (r.1 2 = 0)))), (4, .int (nI o))]) C dX5_takeBlock_87 rfl (by decide) rfl ?_
                    refine z_iinc (k := 1) (v := (nI y1 - 1)) (lv' := [(5, .int ((nI y1 - 1))), (3, .int (oI (if decide (r_free r y1 = true ∧ r.2.1 2 y1 = o) then some y1 else b1))), (0, .ref (base + 16)), (1, .int (nI k)), (2, .int (bI (decide (r.1 2 = 0)))), (4, .int (nI o))]) C dX5_takeBlock_88 rfl (add_m1 _) (by decide) rfl ?_
                    refine z_goto (tgt := 55) C dX5_takeBlock_91 (by decide) ?_
                    refine z_lv (lv' := [(5, .int ((nI y1 - 1))), (3, .int (oI (if decide (r_free r y1 = true ∧ r.2.1 2 y1 = o) then some y1 else b1))), (0, .ref (base + 16)), (1, .int (nI k)), (2, .int (bI (decide (r.1 2 = 0)))), (4, .int (nI o))]) [0, 1, 2, 3, 4, 5] rfl ?_
                    exact ihi y1 _ (by omega) (by omega) hb3 (by rw [← hlv]; rfl)
                  · skip
                    refine z_aload_n C dX5_takeBlock_69 rfl 2 rfl ?_
                    refine z_get C fl_X5_20 dX5_takeBlock_70 rfl rfl ?_
                    refine z_iload C dX5_takeBlock_73 0 rfl ?_
                    refine z_ialdK C dX5_takeBlock_75 rfl (by omega) (by decide) ?_
                    refine z_iload C dX5_takeBlock_76 5 rfl ?_
                    refine z_icmp_ne (tgt := 86) C dX5_takeBlock_78 (by decide) (fun h78 => ?_) (fun h78 => ?_)
                    · skip
                      refine z_iload_n C dX5_takeBlock_86 rfl 1 rfl ?_
                      refine z_casti (y := oI (if decide (r_free r y1 = true ∧ r.2.1 2 y1 = o) then some y1 else b1)) (by first | (rw [if_pos (decide_eq_true ⟨bI_nt h66, (nI_eq (by have := hoo y1; omega) (by omega)).mp h78⟩)]; rfl) | rw [if_neg (by rw [decide_eq_true_iff]; first | (rw [bI_ff h66]; exact fun q => Bool.noConfusion q.1) | exact fun q => h78 (by rw [q.2]))]) ?_
                      have hb3 : ∀ p, (if decide (r_free r y1 = true ∧ r.2.1 2 y1 = o) then some y1 else b1) = some p → p < 256 := fun p h => by
                        split at h
                        · cases h; omega
                        · exact hb1 p h
                      refine z_istore_n (lv' := [(3, .int (oI (if decide (r_free r y1 = true ∧ r.2.1 2 y1 = o) then some y1 else b1))), (5, .int (nI y1)), (0, .ref (base + 16)), (1, .int (nI k)), (2, .int (bI (decide (r.1 2 = 0)))), (4, .int (nI o))]) C dX5_takeBlock_87 rfl (by decide) rfl ?_
                      refine z_iinc (k := 1) (v := (nI y1 - 1)) (lv' := [(5, .int ((nI y1 - 1))), (3, .int (oI (if decide (r_free r y1 = true ∧ r.2.1 2 y1 = o) then some y1 else b1))), (0, .ref (base + 16)), (1, .int (nI k)), (2, .int (bI (decide (r.1 2 = 0)))), (4, .int (nI o))]) C dX5_takeBlock_88 rfl (add_m1 _) (by decide) rfl ?_
                      refine z_goto (tgt := 55) C dX5_takeBlock_91 (by decide) ?_
                      refine z_lv (lv' := [(5, .int ((nI y1 - 1))), (3, .int (oI (if decide (r_free r y1 = true ∧ r.2.1 2 y1 = o) then some y1 else b1))), (0, .ref (base + 16)), (1, .int (nI k)), (2, .int (bI (decide (r.1 2 = 0)))), (4, .int (nI o))]) [0, 1, 2, 3, 4, 5] rfl ?_
                      exact ihi y1 _ (by omega) (by omega) hb3 (by rw [← hlv]; rfl)
                    · skip
                      refine z_iload C dX5_takeBlock_81 0 rfl ?_
                      refine z_goto (tgt := 87) C dX5_takeBlock_83 (by decide) ?_
                      refine z_casti (y := oI (if decide (r_free r y1 = true ∧ r.2.1 2 y1 = o) then some y1 else b1)) (by first | (rw [if_pos (decide_eq_true ⟨bI_nt h66, (nI_eq (by have := hoo y1; omega) (by omega)).mp h78⟩)]; rfl) | rw [if_neg (by rw [decide_eq_true_iff]; first | (rw [bI_ff h66]; exact fun q => Bool.noConfusion q.1) | exact fun q => h78 (by rw [q.2]))]) ?_
                      have hb3 : ∀ p, (if decide (r_free r y1 = true ∧ r.2.1 2 y1 = o) then some y1 else b1) = some p → p < 256 := fun p h => by
                        split at h
                        · cases h; omega
                        · exact hb1 p h
                      refine z_istore_n (lv' := [(3, .int (oI (if decide (r_free r y1 = true ∧ r.2.1 2 y1 = o) then some y1 else b1))), (5, .int (nI y1)), (0, .ref (base + 16)), (1, .int (nI k)), (2, .int (bI (decide (r.1 2 = 0)))), (4, .int (nI o))]) C dX5_takeBlock_87 rfl (by decide) rfl ?_
                      refine z_iinc (k := 1) (v := (nI y1 - 1)) (lv' := [(5, .int ((nI y1 - 1))), (3, .int (oI (if decide (r_free r y1 = true ∧ r.2.1 2 y1 = o) then some y1 else b1))), (0, .ref (base + 16)), (1, .int (nI k)), (2, .int (bI (decide (r.1 2 = 0)))), (4, .int (nI o))]) C dX5_takeBlock_88 rfl (add_m1 _) (by decide) rfl ?_
                      refine z_goto (tgt := 55) C dX5_takeBlock_91 (by decide) ?_
                      refine z_lv (lv' := [(5, .int ((nI y1 - 1))), (3, .int (oI (if decide (r_free r y1 = true ∧ r.2.1 2 y1 = o) then some y1 else b1))), (0, .ref (base + 16)), (1, .int (nI k)), (2, .int (bI (decide (r.1 2 = 0)))), (4, .int (nI o))]) [0, 1, 2, 3, 4, 5] rfl ?_
                      exact ihi y1 _ (by omega) (by omega) hb3 (by rw [← hlv]; rfl)
            exact loop2 257 256 none (by omega) (by omega) (fun p h => by cases h) rfl
          · skip
            refine z_iload_n C dX5_takeBlock_46 rfl 1 rfl ?_
            refine z_if_ge (tgt := 100) C dX5_takeBlock_47 (by decide) (fun h47 => ?_) (fun h47 => absurd h47 (fun q => q (nI_pos' (by have := hb P rfl; omega))))
            refine z_lv (lv' := [(2, .int (bI (decide (r.1 2 = 0)))), (3, .int (nI P)), (0, .ref (base + 16)), (1, .int (nI k))]) [4, 1, 2, 3] rfl ?_
            have hbe : True := trivial
            refine z_iload_n C dX5_takeBlock_100 rfl 0 rfl ?_
            refine z_if_ne (tgt := 108) C dX5_takeBlock_101 (by decide) (fun h101 => ?_) (fun h101 => ?_)
            · skip
              refine z_aload_n C dX5_takeBlock_108 rfl 2 rfl ?_
              refine z_dup C dX5_takeBlock_109 rfl ?_
              refine z_get C fl_X5_85 dX5_takeBlock_110 rfl rfl ?_
              refine z_iconst (v := 1) C dX5_takeBlock_113 (by decide) ?_
              refine z_iadd C dX5_takeBlock_114 ?_
              refine z_put C fl_X5_85 fp_X5 rfl dX5_takeBlock_115 rfl (by simp) rfl rfl ?_
              refine z_iconst (v := -1) C dX5_takeBlock_118 (by decide) ?_
              exact z_iret C hrt rfl dX5_takeBlock_119 (by decide) (by decide) (⟨by rw [show r_tk r k = none by unfold r_tk; first | rw [if_pos (bI_ne h101)] | (rw [if_neg (bI_eq h101), hv, show o = 7 by rcases Nat.lt_or_ge o 7 with q9 | q9; exact absurd h43 (nI_nlt (a := 6) (b := o) (by omega) (by decide)); omega]; rfl)]; rfl, by unfold r_tks; rw [show r_tk r k = none by unfold r_tk; first | rw [if_pos (bI_ne h101)] | (rw [if_neg (bI_eq h101), hv, show o = 7 by rcases Nat.lt_or_ge o 7 with q9 | q9; exact absurd h43 (nI_nlt (a := 6) (b := o) (by omega) (by decide)); omega]; rfl)]; rfl⟩)
            · skip
              refine z_iload_n C dX5_takeBlock_104 rfl 1 rfl ?_
              refine z_if_ge (tgt := 120) C dX5_takeBlock_105 (by decide) (fun h105 => ?_) (fun h105 => absurd h105 (fun q => q (nI_pos' (by have := hb P rfl; omega))))
              have hPl : P < 256 := hb P rfl
              have hbs := r_best_some (7 - k) k P hv
              have hPf : r_free r P = true := hbs.2.1
              have hPo := hoo P
              refine z_aload_n C dX5_takeBlock_120 rfl 2 rfl ?_
              refine z_get C fl_X5_20 dX5_takeBlock_121 rfl rfl ?_
              refine z_iload_n C dX5_takeBlock_124 rfl 1 rfl ?_
              refine z_ialdK C dX5_takeBlock_125 rfl (by omega) (by decide) ?_
              refine z_casti (y := nI (k + (r.2.1 2 P - k))) (by rw [show k + (r.2.1 2 P - k) = r.2.1 2 P by omega]) ?_
              refine z_istore (lv' := [(4, .int (nI (k + (r.2.1 2 P - k)))), (2, .int (bI (decide (r.1 2 = 0)))), (3, .int (nI P)), (0, .ref (base + 16)), (1, .int (nI k))]) C dX5_takeBlock_126 (by decide) rfl ?_
              refine z_lv (lv' := [(4, .int (nI (k + (r.2.1 2 P - k)))), (3, .int (nI P)), (0, .ref (base + 16)), (1, .int (nI k))]) [0, 2, 3, 4] rfl ?_
              have loop3 : ∀ (n : Nat) (y : Nat) (r1 : r_T), (k + y ≤ 6) → (y + 1 ≤ n) → (P + 2 ^ (k + y) ≤ 256) → (∀ p, r1.2.1 1 p < 256) → (∀ p, r1.2.1 2 p ≤ 6) → (r_split P k y r1 = r_split P k (r.2.1 2 P - k) (upd r.1 2 (r_arm (r.1 2)), r.2)) → z_R p l e (z_rm 4 0 0) s m ([Value.ref (base + 16), .int (nI k)] : List Value).toArray below meth c (MQ below (z_Qc G base (fun v hp' => v = some (.int (oI (r_tk r k))) ∧ hp' = hpM G base xs (r_tks r k) tl)) ([Value.ref (base + 16), .int (nI k)] : List Value).toArray s 0 0 (fun z => base ≤ z)) G base 6 0 0 128 [(4, .int (nI (k + y))), (3, .int (nI P)), (0, .ref (base + 16)), (1, .int (nI k))] [] (hpM G base xs r1 tl) := by
                intro n
                induction n with
                | zero => intro y r1 hy hn0 hpw hfo1 hoo1 hv2; exact absurd hn0 (by omega)
                | succ n ih =>
                  intro y r1 hy hn0 hpw hfo1 hoo1 hv2
                  refine z_iload C dX5_takeBlock_128 0 rfl ?_
                  refine z_iload_n C dX5_takeBlock_130 rfl 3 rfl ?_
                  refine z_icmp_le (tgt := 153) C dX5_takeBlock_131 (by decide) (fun h131 => ?_) (fun h131 => ?_)
                  · skip
                    have hy0 : y = 0 := by
                      rcases Nat.eq_zero_or_pos y with q9 | q9
                      · exact q9
                      · exact absurd h131 (nI_ge (by omega) (by omega))
                    refine z_aload_n C dX5_takeBlock_153 rfl 2 rfl ?_
                    refine z_iload_n C dX5_takeBlock_154 rfl 1 rfl ?_
                    refine z_iload_n C dX5_takeBlock_155 rfl 3 rfl ?_
                    refine z_iconst (v := 1) C dX5_takeBlock_156 (by decide) ?_
                    refine z_callV (rest := []) C (m_X5_makeBlock l G base xs r1 tl P k 1 (by omega) (by rw [hy0] at hpw; exact hpw) rfl) ml_X5_70 kw_X5_makeBlock rfl rfl rfl rfl (by simp [Value.category]) dX5_takeBlock_157 (by decide) (by decide) (by decide) (by decide) ?_
                    rintro _ _ ⟨rfl, rfl⟩
                    refine z_st (st' := []) rfl ?_
                    have hfo2 := r_mk_fo (b := 1) (k := k) hfo1 hPl
                    have hoo2 := r_mk_oo (P := P) (b := 1) hoo1 hk
                    have hgot : r_mk r1 P k 1 = r_got (upd r.1 2 (r_arm (r.1 2)), r.2) P k := by unfold r_got; rw [show r1 = r_split P k 0 r1 from rfl, ← hy0, hv2]
                    have hsc : (r_mk r1 P k 1).1 = upd r.1 2 (r_arm (r.1 2)) := by rw [hgot]; exact r_got_sc _ _ _
                    refine z_aload_n C dX5_takeBlock_160 rfl 2 rfl ?_
                    refine z_dup C dX5_takeBlock_161 rfl ?_
                    refine z_get C fl_X5_88 dX5_takeBlock_162 rfl rfl ?_
                    refine z_iconst (v := 1) C dX5_takeBlock_165 (by decide) ?_
                    refine z_iadd C dX5_takeBlock_166 ?_
                    refine z_put C fl_X5_88 fp_X5 rfl dX5_takeBlock_167 rfl (by simp) rfl rfl ?_
                    refine z_hp (hp' := hpM G base xs (upd (r_mk r1 P k 1).1 4 ((r_mk r1 P k 1).1 4 + 1), (r_mk r1 P k 1).2) tl) (rfl) ?_
                    refine z_aload_n C dX5_takeBlock_170 rfl 2 rfl ?_
                    refine z_callV (rest := []) C (m_X5_usablePages l G base xs (upd (r_mk r1 P k 1).1 4 ((r_mk r1 P k 1).1 4 + 1), (r_mk r1 P k 1).2) tl) ml_X5_74 kw_X5_usablePages rfl rfl rfl rfl (by simp [Value.category]) dX5_takeBlock_171 (by decide) (by decide) (by decide) (by decide) ?_
                    rintro _ _ ⟨rfl, rfl⟩
                    refine z_st (st' := [.int (nI (r_sum (fun p => if (r_mk r1 P k 1).2.2 0 p = 0 then 0 else 1) 256))]) rfl ?_
                    refine z_aload_n C dX5_takeBlock_174 rfl 2 rfl ?_
                    refine z_callV (rest := [.int (nI (r_sum (fun p => if (r_mk r1 P k 1).2.2 0 p = 0 then 0 else 1) 256))]) C (m_X5_freePageCount l G base xs (upd (r_mk r1 P k 1).1 4 ((r_mk r1 P k 1).1 4 + 1), (r_mk r1 P k 1).2) tl hfo2 hoo2) ml_X5_91 kw_X5_freePageCount rfl rfl rfl rfl (by simp [Value.category]) dX5_takeBlock_175 (by decide) (by decide) (by decide) (by decide) ?_
                    rintro _ _ ⟨rfl, rfl⟩
                    refine z_st (st' := [.int (nI (r_sum (fun p => if r_free (r_mk r1 P k 1) p = true then 2 ^ (r_mk r1 P k 1).2.1 2 p else 0) 256)), .int (nI (r_sum (fun p => if (r_mk r1 P k 1).2.2 0 p = 0 then 0 else 1) 256))]) rfl ?_
                    refine z_isub C dX5_takeBlock_178 ?_
                    refine z_casti (y := r_used (r_mk r1 P k 1)) (rfl) ?_
                    refine z_istore (lv' := [(5, .int (r_used (r_mk r1 P k 1))), (4, .int (nI (k + y))), (3, .int (nI P)), (0, .ref (base + 16)), (1, .int (nI k))]) C dX5_takeBlock_179 (by decide) rfl ?_
                    refine z_aload_n C dX5_takeBlock_181 rfl 3 rfl ?_
                    refine z_iload C dX5_takeBlock_182 0 rfl ?_
                    refine z_aload_n C dX5_takeBlock_184 rfl 3 rfl ?_
                    refine z_get C fl_X5_94 dX5_takeBlock_185 rfl rfl ?_
                    refine z_icmp_le (tgt := 196) C dX5_takeBlock_188 (by decide) (fun h188 => ?_) (fun h188 => ?_)
                    · skip
                      refine z_aload_n C dX5_takeBlock_196 rfl 3 rfl ?_
                      refine z_get C fl_X5_94 dX5_takeBlock_197 rfl rfl ?_
                      refine z_casti (y := (if r.1 6 < r_used (r_mk r1 P k 1) then r_used (r_mk r1 P k 1) else r.1 6)) (by
                        have e6 : (r_mk r1 P k 1).1 6 = r.1 6 := by rw [hsc]; rfl
                        first | (rw [if_neg (Int32.not_lt.mpr (by rw [← e6]; exact h188))]; exact e6) | rw [if_pos (by rw [← e6]; exact Int32.not_le.mp h188)]) ?_
                      refine z_put C fl_X5_94 fp_X5 rfl dX5_takeBlock_200 rfl (by simp) rfl rfl ?_
                      refine z_iload_n C dX5_takeBlock_203 rfl 2 rfl ?_
                      exact z_iret C hrt rfl dX5_takeBlock_204 (by decide) (by decide) (⟨by rw [show r_tk r k = some P by unfold r_tk; rw [if_neg (bI_eq h101)]; exact hv]; rfl, by unfold r_tks; rw [show r_tk r k = some P by unfold r_tk; rw [if_neg (bI_eq h101)]; exact hv]; show _ = hpM G base xs (upd (upd (r_got (upd r.1 2 (r_arm (r.1 2)), r.2) P k).1 4 (r.1 4 + 1)) 6 (if r.1 6 < r_used (r_got (upd r.1 2 (r_arm (r.1 2)), r.2) P k) then r_used (r_got (upd r.1 2 (r_arm (r.1 2)), r.2) P k) else r.1 6), (r_got (upd r.1 2 (r_arm (r.1 2)), r.2) P k).2) tl; rw [← hgot, show (r.1 4 : Int32) = (r_mk r1 P k 1).1 4 by rw [hsc]; rfl]; rfl⟩)
                    · skip
                      refine z_iload C dX5_takeBlock_191 0 rfl ?_
                      refine z_goto (tgt := 200) C dX5_takeBlock_193 (by decide) ?_
                      refine z_casti (y := (if r.1 6 < r_used (r_mk r1 P k 1) then r_used (r_mk r1 P k 1) else r.1 6)) (by
                        have e6 : (r_mk r1 P k 1).1 6 = r.1 6 := by rw [hsc]; rfl
                        first | (rw [if_neg (Int32.not_lt.mpr (by rw [← e6]; exact h188))]; exact e6) | rw [if_pos (by rw [← e6]; exact Int32.not_le.mp h188)]) ?_
                      refine z_put C fl_X5_94 fp_X5 rfl dX5_takeBlock_200 rfl (by simp) rfl rfl ?_
                      refine z_iload_n C dX5_takeBlock_203 rfl 2 rfl ?_
                      exact z_iret C hrt rfl dX5_takeBlock_204 (by decide) (by decide) (⟨by rw [show r_tk r k = some P by unfold r_tk; rw [if_neg (bI_eq h101)]; exact hv]; rfl, by unfold r_tks; rw [show r_tk r k = some P by unfold r_tk; rw [if_neg (bI_eq h101)]; exact hv]; show _ = hpM G base xs (upd (upd (r_got (upd r.1 2 (r_arm (r.1 2)), r.2) P k).1 4 (r.1 4 + 1)) 6 (if r.1 6 < r_used (r_got (upd r.1 2 (r_arm (r.1 2)), r.2) P k) then r_used (r_got (upd r.1 2 (r_arm (r.1 2)), r.2) P k) else r.1 6), (r_got (upd r.1 2 (r_arm (r.1 2)), r.2) P k).2) tl; rw [← hgot, show (r.1 4 : Int32) = (r_mk r1 P k 1).1 4 by rw [hsc]; rfl]; rfl⟩)
                  · skip
                    obtain ⟨y1, rfl⟩ : ∃ y1, y = y1 + 1 := by
                      cases y with
                      | zero => exact absurd (nI_le (Nat.le_refl k) (by omega)) h131
                      | succ y1 => exact ⟨y1, rfl⟩
                    refine z_iinc (k := 0) (v := nI (k + y1)) (lv' := [(4, .int (nI (k + y1))), (3, .int (nI P)), (0, .ref (base + 16)), (1, .int (nI k))]) C dX5_takeBlock_134 rfl (by rw [add_m1]; exact nI_pred _) (by decide) rfl ?_
                    refine z_aload_n C dX5_takeBlock_137 rfl 2 rfl ?_
                    refine z_iload_n C dX5_takeBlock_138 rfl 1 rfl ?_
                    refine z_iconst (v := 1) C dX5_takeBlock_139 (by decide) ?_
                    refine z_iload C dX5_takeBlock_140 0 rfl ?_
                    refine z_ishl C dX5_takeBlock_142 ?_
                    refine z_casti (y := nI (2 ^ (k + y1))) (nI_1lt _ (by omega)) ?_
                    refine z_iadd C dX5_takeBlock_143 ?_
                    refine z_casti (y := nI (P + 2 ^ (k + y1))) (nI_add _ _) ?_
                    refine z_iload C dX5_takeBlock_144 0 rfl ?_
                    refine z_iconst (v := 0) C dX5_takeBlock_146 (by decide) ?_
                    refine z_callV (rest := []) C (m_X5_makeBlock l G base xs r1 tl (P + 2 ^ (k + y1)) (k + y1) 0 (by omega) (by rw [show k + (y1 + 1) = (k + y1) + 1 from rfl, Nat.pow_succ] at hpw; omega) rfl) ml_X5_70 kw_X5_makeBlock rfl rfl rfl rfl (by simp [Value.category]) dX5_takeBlock_147 (by decide) (by decide) (by decide) (by decide) ?_
                    rintro _ _ ⟨rfl, rfl⟩
                    refine z_st (st' := []) rfl ?_
                    refine z_goto (tgt := 128) C dX5_takeBlock_150 (by decide) ?_
                    refine z_lv (lv' := [(4, .int (nI (k + y1))), (3, .int (nI P)), (0, .ref (base + 16)), (1, .int (nI k))]) [0, 1, 2, 3] rfl ?_
                    exact ih y1 _ (by omega) (by omega) (by rw [show k + (y1 + 1) = (k + y1) + 1 from rfl, Nat.pow_succ] at hpw; omega) (r_mk_fo hfo1 (by have := Nat.two_pow_pos (k + y1); rw [show k + (y1 + 1) = (k + y1) + 1 from rfl, Nat.pow_succ] at hpw; omega)) (r_mk_oo hoo1 (by omega)) (by rw [← hv2]; rfl)
              exact loop3 7 (r.2.1 2 P - k) (upd r.1 2 (r_arm (r.1 2)), r.2) (by omega) (by omega) (by rw [show k + (r.2.1 2 P - k) = r.2.1 2 P by omega]; exact hal P hPl (by exact hPf)) hfo hoo rfl
    exact loop 8 k none (by omega) (by omega) (fun p h => by cases h) rfl
  refine z_aload_n C dX5_takeBlock_0 rfl 0 rfl ?_
  refine z_get C fl_X5_50 dX5_takeBlock_1 rfl rfl ?_
  refine z_if_ne (tgt := 11) C dX5_takeBlock_4 (by decide) (fun h4 => ?_) (fun h4 => ?_)
  · skip
    refine z_iconst (v := 0) C dX5_takeBlock_11 (by decide) ?_
    refine z_casti (y := bI (decide (r.1 2 = 0))) (by first | exact bI_t h4 | exact bI_f h4) ?_
    refine z_istore_n (lv' := [(2, .int (bI (decide (r.1 2 = 0)))), (0, .ref (base + 16)), (1, .int (nI k))]) C dX5_takeBlock_12 rfl (by decide) rfl ?_
    refine z_aload_n C dX5_takeBlock_13 rfl 1 rfl ?_
    refine z_aload_n C dX5_takeBlock_14 rfl 1 rfl ?_
    refine z_get C fl_X5_50 dX5_takeBlock_15 rfl rfl ?_
    refine z_if_ge (tgt := 25) C dX5_takeBlock_18 (by decide) (fun h18 => ?_) (fun h18 => ?_)
    · skip
      refine z_aload_n C dX5_takeBlock_25 rfl 1 rfl ?_
      refine z_get C fl_X5_50 dX5_takeBlock_26 rfl rfl ?_
      refine z_iconst (v := 1) C dX5_takeBlock_29 (by decide) ?_
      refine z_isub C dX5_takeBlock_30 ?_
      refine z_casti (y := r_arm (r.1 2)) (by unfold r_arm; first | rw [if_neg (Int32.not_lt.mpr h18)] | rw [if_pos (Int32.not_le.mp h18)]) ?_
      refine z_put C fl_X5_50 fp_X5 rfl dX5_takeBlock_31 rfl (by simp) rfl rfl ?_
      refine z_lv (lv' := [(2, .int (bI (decide (r.1 2 = 0)))), (0, .ref (base + 16)), (1, .int (nI k))]) [0, 1, 2] rfl ?_
      refine z_hp (hp' := (hpM G base xs (upd r.1 2 (r_arm (r.1 2)), r.2) tl)) (by first | rfl) ?_
      exact cut
    · skip
      refine z_iconst (v := -1) C dX5_takeBlock_21 (by decide) ?_
      refine z_goto (tgt := 31) C dX5_takeBlock_22 (by decide) ?_
      refine z_casti (y := r_arm (r.1 2)) (by unfold r_arm; first | rw [if_neg (Int32.not_lt.mpr h18)] | rw [if_pos (Int32.not_le.mp h18)]) ?_
      refine z_put C fl_X5_50 fp_X5 rfl dX5_takeBlock_31 rfl (by simp) rfl rfl ?_
      refine z_lv (lv' := [(2, .int (bI (decide (r.1 2 = 0)))), (0, .ref (base + 16)), (1, .int (nI k))]) [0, 1, 2] rfl ?_
      refine z_hp (hp' := (hpM G base xs (upd r.1 2 (r_arm (r.1 2)), r.2) tl)) (by first | rfl) ?_
      exact cut
  · skip
    refine z_iconst (v := 1) C dX5_takeBlock_7 (by decide) ?_
    refine z_goto (tgt := 12) C dX5_takeBlock_8 (by decide) ?_
    refine z_casti (y := bI (decide (r.1 2 = 0))) (by first | exact bI_t h4 | exact bI_f h4) ?_
    refine z_istore_n (lv' := [(2, .int (bI (decide (r.1 2 = 0)))), (0, .ref (base + 16)), (1, .int (nI k))]) C dX5_takeBlock_12 rfl (by decide) rfl ?_
    refine z_aload_n C dX5_takeBlock_13 rfl 1 rfl ?_
    refine z_aload_n C dX5_takeBlock_14 rfl 1 rfl ?_
    refine z_get C fl_X5_50 dX5_takeBlock_15 rfl rfl ?_
    refine z_if_ge (tgt := 25) C dX5_takeBlock_18 (by decide) (fun h18 => ?_) (fun h18 => ?_)
    · skip
      refine z_aload_n C dX5_takeBlock_25 rfl 1 rfl ?_
      refine z_get C fl_X5_50 dX5_takeBlock_26 rfl rfl ?_
      refine z_iconst (v := 1) C dX5_takeBlock_29 (by decide) ?_
      refine z_isub C dX5_takeBlock_30 ?_
      refine z_casti (y := r_arm (r.1 2)) (by unfold r_arm; first | rw [if_neg (Int32.not_lt.mpr h18)] | rw [if_pos (Int32.not_le.mp h18)]) ?_
      refine z_put C fl_X5_50 fp_X5 rfl dX5_takeBlock_31 rfl (by simp) rfl rfl ?_
      refine z_lv (lv' := [(2, .int (bI (decide (r.1 2 = 0)))), (0, .ref (base + 16)), (1, .int (nI k))]) [0, 1, 2] rfl ?_
      refine z_hp (hp' := (hpM G base xs (upd r.1 2 (r_arm (r.1 2)), r.2) tl)) (by first | rfl) ?_
      exact cut
    · skip
      refine z_iconst (v := -1) C dX5_takeBlock_21 (by decide) ?_
      refine z_goto (tgt := 31) C dX5_takeBlock_22 (by decide) ?_
      refine z_casti (y := r_arm (r.1 2)) (by unfold r_arm; first | rw [if_neg (Int32.not_lt.mpr h18)] | rw [if_pos (Int32.not_le.mp h18)]) ?_
      refine z_put C fl_X5_50 fp_X5 rfl dX5_takeBlock_31 rfl (by simp) rfl rfl ?_
      refine z_lv (lv' := [(2, .int (bI (decide (r.1 2 = 0)))), (0, .ref (base + 16)), (1, .int (nI k))]) [0, 1, 2] rfl ?_
      refine z_hp (hp' := (hpM G base xs (upd r.1 2 (r_arm (r.1 2)), r.2) tl)) (by first | rfl) ?_
      exact cut

set_option maxHeartbeats 4000000 in
set_option maxRecDepth 100000 in
theorem m_X5_giveBlock (l : Launch) (G : z_G) (base : Nat) (xs : Nat → va_E) (r : r_T) (tl : List va_E) (hfo : ∀ p, r.2.1 1 p < 256) (hoo : ∀ p, r.2.1 2 p ≤ 6) (P : Nat) (hP : P < 256) (hPa : P % 2 ^ r.2.1 2 P = 0) : z_M l G base yX5_giveBlock cX5_giveBlock 7 (some .int) 3 0 0 [.ref (base + 16), .int (nI P)] (hpM G base xs r tl) (fun v hp' => v = some (.int (nI (2 ^ r.2.1 2 P))) ∧ hp' = hpM G base xs (r_gvs r P) tl) := by
  refine z_M.of (lv0 := [(0, .ref (base + 16)), (1, .int (nI P))]) (by decide) (Nat.le_of_ble_eq_true rfl) rfl ?_
  intro p e s m below meth c hmn hrt C
  have hPo := hoo P
  have hPe := al_end _ (by omega) P hP hPa
  refine z_iconst (v := 1) C dX5_giveBlock_0 (by decide) ?_
  refine z_aload_n C dX5_giveBlock_1 rfl 0 rfl ?_
  refine z_get C fl_X5_20 dX5_giveBlock_2 rfl rfl ?_
  refine z_iload_n C dX5_giveBlock_5 rfl 1 rfl ?_
  refine z_ialdK C dX5_giveBlock_6 rfl (by omega) (by decide) ?_
  refine z_ishl C dX5_giveBlock_7 ?_
  refine z_casti (y := nI (2 ^ r.2.1 2 P)) (nI_1lt _ (by omega)) ?_
  refine z_istore_n (lv' := [(2, .int (nI (2 ^ r.2.1 2 P))), (0, .ref (base + 16)), (1, .int (nI P))]) C dX5_giveBlock_8 rfl (by decide) rfl ?_
  refine z_iload_n C dX5_giveBlock_9 rfl 2 rfl ?_
  refine z_istore_n (lv' := [(3, .int (nI P)), (2, .int (nI (2 ^ r.2.1 2 P))), (0, .ref (base + 16)), (1, .int (nI P))]) C dX5_giveBlock_10 rfl (by decide) rfl ?_
  refine z_aload_n C dX5_giveBlock_11 rfl 2 rfl ?_
  refine z_get C fl_X5_20 dX5_giveBlock_12 rfl rfl ?_
  refine z_iload_n C dX5_giveBlock_15 rfl 3 rfl ?_
  refine z_ialdK C dX5_giveBlock_16 rfl (by omega) (by decide) ?_
  refine z_istore (lv' := [(4, .int (nI (((r.2.1 2)) P))), (3, .int (nI P)), (2, .int (nI (2 ^ r.2.1 2 P))), (0, .ref (base + 16)), (1, .int (nI P))]) C dX5_giveBlock_17 (by decide) rfl ?_
  refine z_aload_n C dX5_giveBlock_19 rfl 3 rfl ?_
  refine z_iload_n C dX5_giveBlock_20 rfl 1 rfl ?_
  refine z_iload C dX5_giveBlock_21 0 rfl ?_
  refine z_iconst (v := 0) C dX5_giveBlock_23 (by decide) ?_
  refine z_callV (rest := []) C (m_X5_makeBlock l G base xs r tl P (r.2.1 2 P) 0 hPo hPe rfl) ml_X5_70 kw_X5_makeBlock rfl rfl rfl rfl (by simp [Value.category]) dX5_giveBlock_24 (by decide) (by decide) (by decide) (by decide) ?_
  rintro _ _ ⟨rfl, rfl⟩
  refine z_st (st' := []) rfl ?_
  refine z_iconst (v := 1) C dX5_giveBlock_27 (by decide) ?_
  refine z_istore (lv' := [(5, .int ((1 : Int32))), (4, .int (nI (((r.2.1 2)) P))), (3, .int (nI P)), (2, .int (nI (2 ^ r.2.1 2 P))), (0, .ref (base + 16)), (1, .int (nI P))]) C dX5_giveBlock_28 (by decide) rfl ?_
  refine z_lv (lv' := [(5, .int ((1 : Int32))), (3, .int (nI P)), (4, .int (nI (((r.2.1 2)) P))), (0, .ref (base + 16)), (2, .int (nI (2 ^ r.2.1 2 P)))]) [0, 2, 1, 4, 3] rfl ?_
  have loop : ∀ (n : Nat) (f : Nat) (j : Nat) (r1 : r_T), (j ≤ 6) → (7 ≤ n + j) → (f < 256) → (f % 2 ^ j = 0) → (∀ p, r1.2.1 1 p < 256) → (∀ p, r1.2.1 2 p ≤ 6) → (r_join (6 - j) r1 f j = r_join (6 - r.2.1 2 P) (r_mk r P (r.2.1 2 P) 0) P (r.2.1 2 P)) → z_R p l e (z_rm 3 0 0) s m ([Value.ref (base + 16), .int (nI P)] : List Value).toArray below meth c (MQ below (z_Qc G base (fun v hp' => v = some (.int (nI (2 ^ r.2.1 2 P))) ∧ hp' = hpM G base xs (r_gvs r P) tl)) ([Value.ref (base + 16), .int (nI P)] : List Value).toArray s 0 0 (fun z => base ≤ z)) G base 7 0 0 30 [(5, .int ((1 : Int32))), (3, .int (nI f)), (4, .int (nI j)), (0, .ref (base + 16)), (2, .int (nI (2 ^ r.2.1 2 P)))] [] (hpM G base xs r1 tl) := by
    intro n
    induction n with
    | zero => intro f j r1 hj hn0 hf hfa hfo1 hoo1 hv; exact absurd hn0 (by omega)
    | succ n ih =>
      intro f j r1 hj hn0 hf hfa hfo1 hoo1 hv
      have hxl := (xor_lt j (by omega) f hf).1
      refine z_iload C dX5_giveBlock_30 0 rfl ?_
      refine z_if_eq (tgt := 110) C dX5_giveBlock_32 (by decide) (fun h32 => absurd h32 (by decide)) (fun h32 => ?_)
      refine z_iload_n C dX5_giveBlock_35 rfl 1 rfl ?_
      refine z_iconst (v := 1) C dX5_giveBlock_36 (by decide) ?_
      refine z_iload C dX5_giveBlock_37 2 rfl ?_
      refine z_ishl C dX5_giveBlock_39 ?_
      refine z_casti (y := nI (2 ^ j)) (nI_1lt _ (by omega)) ?_
      refine z_ixor C dX5_giveBlock_40 ?_
      refine z_casti (y := nI (f ^^^ 2 ^ j)) (nI_xor _ _) ?_
      refine z_istore (lv' := [(6, .int (nI (f ^^^ 2 ^ j))), (5, .int ((1 : Int32))), (3, .int (nI f)), (4, .int (nI j)), (0, .ref (base + 16)), (2, .int (nI (2 ^ r.2.1 2 P)))]) C dX5_giveBlock_41 (by decide) rfl ?_
      refine z_iload C dX5_giveBlock_43 3 rfl ?_
      refine z_bipush (v := 6) C dX5_giveBlock_45 (by decide) ?_
      refine z_icmp_ge (tgt := 75) C dX5_giveBlock_47 (by decide) (fun h47 => ?_) (fun h47 => ?_)
      · skip
        have hend : ¬ (j < 6 ∧ r_free r1 (f ^^^ 2 ^ j) = true ∧ r1.2.1 2 (f ^^^ 2 ^ j) = j) := fun z => absurd h47 (nI_ge z.1 (by decide))
        refine z_iconst (v := 0) C dX5_giveBlock_75 (by decide) ?_
        refine z_istore (lv' := [(5, .int ((0 : Int32))), (6, .int (nI (f ^^^ 2 ^ j))), (3, .int (nI f)), (4, .int (nI j)), (0, .ref (base + 16)), (2, .int (nI (2 ^ r.2.1 2 P)))]) C dX5_giveBlock_76 (by decide) rfl ?_
        refine z_iload C dX5_giveBlock_78 0 rfl ?_
        refine z_if_eq (tgt := 107) C dX5_giveBlock_80 (by decide) (fun h80 => ?_) (fun h80 => absurd h80 (by decide))
        refine z_goto (tgt := 30) C dX5_giveBlock_107 (by decide) ?_
        refine z_lv (lv' := [(5, .int ((0 : Int32))), (3, .int (nI f)), (4, .int (nI j)), (0, .ref (base + 16)), (2, .int (nI (2 ^ r.2.1 2 P)))]) [0, 2, 3, 4, 5] rfl ?_
        refine z_iload C dX5_giveBlock_30 0 rfl ?_
        refine z_if_eq (tgt := 110) C dX5_giveBlock_32 (by decide) (fun h32 => ?_) (fun h32 => absurd h32 (by decide))
        refine z_aload_n C dX5_giveBlock_110 rfl 3 rfl ?_
        refine z_dup C dX5_giveBlock_111 rfl ?_
        refine z_get C fl_X5_97 dX5_giveBlock_112 rfl rfl ?_
        refine z_iconst (v := 1) C dX5_giveBlock_115 (by decide) ?_
        refine z_iadd C dX5_giveBlock_116 ?_
        refine z_put C fl_X5_97 fp_X5 rfl dX5_giveBlock_117 rfl (by simp) rfl rfl ?_
        refine z_iload_n C dX5_giveBlock_120 rfl 4 rfl ?_
        exact z_iret C hrt rfl dX5_giveBlock_121 (by decide) (by decide) (⟨rfl, by unfold r_gvs; rw [← hv, r_join_end hend, show (r.1 5 : Int32) = r1.1 5 by rw [show r1 = r_join (6 - j) r1 f j from (r_join_end hend).symm, hv, r_join_sc]; rfl]; rfl⟩)
      · skip
        have hj6 : j < 6 := by
          rcases Nat.lt_or_ge j 6 with q9 | q9
          · exact q9
          · exact absurd (nI_le (a := 6) (b := j) q9 (by omega)) h47
        refine z_aload_n C dX5_giveBlock_50 rfl 4 rfl ?_
        refine z_iload C dX5_giveBlock_51 0 rfl ?_
        refine z_callV (rest := []) C (m_X5_isFree l G base xs r1 tl hfo1 (f ^^^ 2 ^ j) hxl) ml_X5_82 kw_X5_isFree rfl rfl rfl rfl (by simp [Value.category]) dX5_giveBlock_53 (by decide) (by decide) (by decide) (by decide) ?_
        rintro _ _ ⟨rfl, rfl⟩
        refine z_st (st' := [.int ((bI (r_free r1 (f ^^^ 2 ^ j))))]) rfl ?_
        refine z_if_eq (tgt := 75) C dX5_giveBlock_56 (by decide) (fun h56 => ?_) (fun h56 => ?_)
        · skip
          have hend : ¬ (j < 6 ∧ r_free r1 (f ^^^ 2 ^ j) = true ∧ r1.2.1 2 (f ^^^ 2 ^ j) = j) := fun z => by rw [bI_ff h56] at z; exact Bool.noConfusion z.2.1
          refine z_iconst (v := 0) C dX5_giveBlock_75 (by decide) ?_
          refine z_istore (lv' := [(5, .int ((0 : Int32))), (6, .int (nI (f ^^^ 2 ^ j))), (3, .int (nI f)), (4, .int (nI j)), (0, .ref (base + 16)), (2, .int (nI (2 ^ r.2.1 2 P)))]) C dX5_giveBlock_76 (by decide) rfl ?_
          refine z_iload C dX5_giveBlock_78 0 rfl ?_
          refine z_if_eq (tgt := 107) C dX5_giveBlock_80 (by decide) (fun h80 => ?_) (fun h80 => absurd h80 (by decide))
          refine z_goto (tgt := 30) C dX5_giveBlock_107 (by decide) ?_
          refine z_lv (lv' := [(5, .int ((0 : Int32))), (3, .int (nI f)), (4, .int (nI j)), (0, .ref (base + 16)), (2, .int (nI (2 ^ r.2.1 2 P)))]) [0, 2, 3, 4, 5] rfl ?_
          refine z_iload C dX5_giveBlock_30 0 rfl ?_
          refine z_if_eq (tgt := 110) C dX5_giveBlock_32 (by decide) (fun h32 => ?_) (fun h32 => absurd h32 (by decide))
          refine z_aload_n C dX5_giveBlock_110 rfl 3 rfl ?_
          refine z_dup C dX5_giveBlock_111 rfl ?_
          refine z_get C fl_X5_97 dX5_giveBlock_112 rfl rfl ?_
          refine z_iconst (v := 1) C dX5_giveBlock_115 (by decide) ?_
          refine z_iadd C dX5_giveBlock_116 ?_
          refine z_put C fl_X5_97 fp_X5 rfl dX5_giveBlock_117 rfl (by simp) rfl rfl ?_
          refine z_iload_n C dX5_giveBlock_120 rfl 4 rfl ?_
          exact z_iret C hrt rfl dX5_giveBlock_121 (by decide) (by decide) (⟨rfl, by unfold r_gvs; rw [← hv, r_join_end hend, show (r.1 5 : Int32) = r1.1 5 by rw [show r1 = r_join (6 - j) r1 f j from (r_join_end hend).symm, hv, r_join_sc]; rfl]; rfl⟩)
        · skip
          refine z_aload_n C dX5_giveBlock_59 rfl 4 rfl ?_
          refine z_get C fl_X5_20 dX5_giveBlock_60 rfl rfl ?_
          refine z_iload C dX5_giveBlock_63 0 rfl ?_
          refine z_ialdK C dX5_giveBlock_65 rfl (by omega) (by decide) ?_
          refine z_iload C dX5_giveBlock_66 3 rfl ?_
          refine z_icmp_ne (tgt := 75) C dX5_giveBlock_68 (by decide) (fun h68 => ?_) (fun h68 => ?_)
          · skip
            have hend : ¬ (j < 6 ∧ r_free r1 (f ^^^ 2 ^ j) = true ∧ r1.2.1 2 (f ^^^ 2 ^ j) = j) := fun z => h68 (by rw [z.2.2])
            refine z_iconst (v := 0) C dX5_giveBlock_75 (by decide) ?_
            refine z_istore (lv' := [(5, .int ((0 : Int32))), (6, .int (nI (f ^^^ 2 ^ j))), (3, .int (nI f)), (4, .int (nI j)), (0, .ref (base + 16)), (2, .int (nI (2 ^ r.2.1 2 P)))]) C dX5_giveBlock_76 (by decide) rfl ?_
            refine z_iload C dX5_giveBlock_78 0 rfl ?_
            refine z_if_eq (tgt := 107) C dX5_giveBlock_80 (by decide) (fun h80 => ?_) (fun h80 => absurd h80 (by decide))
            refine z_goto (tgt := 30) C dX5_giveBlock_107 (by decide) ?_
            refine z_lv (lv' := [(5, .int ((0 : Int32))), (3, .int (nI f)), (4, .int (nI j)), (0, .ref (base + 16)), (2, .int (nI (2 ^ r.2.1 2 P)))]) [0, 2, 3, 4, 5] rfl ?_
            refine z_iload C dX5_giveBlock_30 0 rfl ?_
            refine z_if_eq (tgt := 110) C dX5_giveBlock_32 (by decide) (fun h32 => ?_) (fun h32 => absurd h32 (by decide))
            refine z_aload_n C dX5_giveBlock_110 rfl 3 rfl ?_
            refine z_dup C dX5_giveBlock_111 rfl ?_
            refine z_get C fl_X5_97 dX5_giveBlock_112 rfl rfl ?_
            refine z_iconst (v := 1) C dX5_giveBlock_115 (by decide) ?_
            refine z_iadd C dX5_giveBlock_116 ?_
            refine z_put C fl_X5_97 fp_X5 rfl dX5_giveBlock_117 rfl (by simp) rfl rfl ?_
            refine z_iload_n C dX5_giveBlock_120 rfl 4 rfl ?_
            exact z_iret C hrt rfl dX5_giveBlock_121 (by decide) (by decide) (⟨rfl, by unfold r_gvs; rw [← hv, r_join_end hend, show (r.1 5 : Int32) = r1.1 5 by rw [show r1 = r_join (6 - j) r1 f j from (r_join_end hend).symm, hv, r_join_sc]; rfl]; rfl⟩)
          · skip
            have hgo : r_free r1 (f ^^^ 2 ^ j) = true ∧ r1.2.1 2 (f ^^^ 2 ^ j) = j := ⟨bI_nt h56, (nI_eq (by have := hoo1 (f ^^^ 2 ^ j); omega) (by omega)).mp h68⟩
            have hal1 := al_min j hj6 f hf hfa
            refine z_iconst (v := 1) C dX5_giveBlock_71 (by decide) ?_
            refine z_goto (tgt := 76) C dX5_giveBlock_72 (by decide) ?_
            refine z_istore (lv' := [(5, .int ((1 : Int32))), (6, .int (nI (f ^^^ 2 ^ j))), (3, .int (nI f)), (4, .int (nI j)), (0, .ref (base + 16)), (2, .int (nI (2 ^ r.2.1 2 P)))]) C dX5_giveBlock_76 (by decide) rfl ?_
            refine z_iload C dX5_giveBlock_78 0 rfl ?_
            refine z_if_eq (tgt := 107) C dX5_giveBlock_80 (by decide) (fun h80 => absurd h80 (by decide)) (fun h80 => ?_)
            refine z_iload C dX5_giveBlock_83 1 rfl ?_
            refine z_iload_n C dX5_giveBlock_85 rfl 2 rfl ?_
            refine z_icmp_ge (tgt := 94) C dX5_giveBlock_86 (by decide) (fun h86 => ?_) (fun h86 => ?_)
            · skip
              refine z_iload_n C dX5_giveBlock_94 rfl 2 rfl ?_
              refine z_casti (y := nI (min f (f ^^^ 2 ^ j))) (by first | (rw [Nat.min_eq_right (Nat.le_of_lt ((nI_ltI (by omega) (by omega)).mp (Int32.not_le.mp h86)))]) | (rw [Nat.min_eq_left ((nI_leI (by omega) (by omega)).mp h86)])) ?_
              refine z_istore_n (lv' := [(3, .int (nI (min f (f ^^^ 2 ^ j)))), (5, .int ((1 : Int32))), (6, .int (nI (f ^^^ 2 ^ j))), (4, .int (nI j)), (0, .ref (base + 16)), (2, .int (nI (2 ^ r.2.1 2 P)))]) C dX5_giveBlock_95 rfl (by decide) rfl ?_
              refine z_iinc (k := 3) (v := nI (j + 1)) (lv' := [(4, .int (nI (j + 1))), (3, .int (nI (min f (f ^^^ 2 ^ j)))), (5, .int ((1 : Int32))), (6, .int (nI (f ^^^ 2 ^ j))), (0, .ref (base + 16)), (2, .int (nI (2 ^ r.2.1 2 P)))]) C dX5_giveBlock_96 rfl (nI_1 j) (by decide) rfl ?_
              refine z_aload_n C dX5_giveBlock_99 rfl 4 rfl ?_
              refine z_iload_n C dX5_giveBlock_100 rfl 1 rfl ?_
              refine z_iload C dX5_giveBlock_101 0 rfl ?_
              refine z_iconst (v := 0) C dX5_giveBlock_103 (by decide) ?_
              refine z_callV (rest := []) C (m_X5_makeBlock l G base xs r1 tl (min f (f ^^^ 2 ^ j)) (j + 1) 0 (by omega) hal1.2 rfl) ml_X5_70 kw_X5_makeBlock rfl rfl rfl rfl (by simp [Value.category]) dX5_giveBlock_104 (by decide) (by decide) (by decide) (by decide) ?_
              rintro _ _ ⟨rfl, rfl⟩
              refine z_st (st' := []) rfl ?_
              refine z_goto (tgt := 30) C dX5_giveBlock_107 (by decide) ?_
              refine z_lv (lv' := [(5, .int ((1 : Int32))), (3, .int (nI (min f (f ^^^ 2 ^ j)))), (4, .int (nI (j + 1))), (0, .ref (base + 16)), (2, .int (nI (2 ^ r.2.1 2 P)))]) [2, 1, 0, 4, 5] rfl ?_
              exact ih (min f (f ^^^ 2 ^ j)) (j + 1) _ (by omega) (by omega) (by omega) hal1.1 (r_mk_fo hfo1 (by omega)) (r_mk_oo hoo1 (by omega)) (by rw [← hv]; exact (r_join_go hj6 hgo).symm)
            · skip
              refine z_iload C dX5_giveBlock_89 1 rfl ?_
              refine z_goto (tgt := 95) C dX5_giveBlock_91 (by decide) ?_
              refine z_casti (y := nI (min f (f ^^^ 2 ^ j))) (by first | (rw [Nat.min_eq_right (Nat.le_of_lt ((nI_ltI (by omega) (by omega)).mp (Int32.not_le.mp h86)))]) | (rw [Nat.min_eq_left ((nI_leI (by omega) (by omega)).mp h86)])) ?_
              refine z_istore_n (lv' := [(3, .int (nI (min f (f ^^^ 2 ^ j)))), (5, .int ((1 : Int32))), (6, .int (nI (f ^^^ 2 ^ j))), (4, .int (nI j)), (0, .ref (base + 16)), (2, .int (nI (2 ^ r.2.1 2 P)))]) C dX5_giveBlock_95 rfl (by decide) rfl ?_
              refine z_iinc (k := 3) (v := nI (j + 1)) (lv' := [(4, .int (nI (j + 1))), (3, .int (nI (min f (f ^^^ 2 ^ j)))), (5, .int ((1 : Int32))), (6, .int (nI (f ^^^ 2 ^ j))), (0, .ref (base + 16)), (2, .int (nI (2 ^ r.2.1 2 P)))]) C dX5_giveBlock_96 rfl (nI_1 j) (by decide) rfl ?_
              refine z_aload_n C dX5_giveBlock_99 rfl 4 rfl ?_
              refine z_iload_n C dX5_giveBlock_100 rfl 1 rfl ?_
              refine z_iload C dX5_giveBlock_101 0 rfl ?_
              refine z_iconst (v := 0) C dX5_giveBlock_103 (by decide) ?_
              refine z_callV (rest := []) C (m_X5_makeBlock l G base xs r1 tl (min f (f ^^^ 2 ^ j)) (j + 1) 0 (by omega) hal1.2 rfl) ml_X5_70 kw_X5_makeBlock rfl rfl rfl rfl (by simp [Value.category]) dX5_giveBlock_104 (by decide) (by decide) (by decide) (by decide) ?_
              rintro _ _ ⟨rfl, rfl⟩
              refine z_st (st' := []) rfl ?_
              refine z_goto (tgt := 30) C dX5_giveBlock_107 (by decide) ?_
              refine z_lv (lv' := [(5, .int ((1 : Int32))), (3, .int (nI (min f (f ^^^ 2 ^ j)))), (4, .int (nI (j + 1))), (0, .ref (base + 16)), (2, .int (nI (2 ^ r.2.1 2 P)))]) [2, 1, 0, 4, 5] rfl ?_
              exact ih (min f (f ^^^ 2 ^ j)) (j + 1) _ (by omega) (by omega) (by omega) hal1.1 (r_mk_fo hfo1 (by omega)) (r_mk_oo hoo1 (by omega)) (by rw [← hv]; exact (r_join_go hj6 hgo).symm)
  exact loop 7 P (r.2.1 2 P) _ hPo (by omega) hP hPa (r_mk_fo hfo hP) (r_mk_oo hoo hPo) rfl

set_option maxHeartbeats 4000000 in
set_option maxRecDepth 100000 in
theorem m_X5_areUsable (l : Launch) (G : z_G) (base : Nat) (xs : Nat → va_E) (r : r_T) (tl : List va_E) (P k : Nat) (hP : P < 256) (hk : k ≤ 64) : z_M l G base yX5_areUsable cX5_areUsable 5 (some .boolean) 0 0 0 [.ref (base + 16), .int (nI P), .int (nI k)] (hpM G base xs r tl) (fun v hp' => v = some (.int (bI (r_au (r.2.2 0) k P))) ∧ hp' = hpM G base xs r tl) := by
  refine z_M.of (lv0 := [(0, .ref (base + 16)), (1, .int (nI P)), (2, .int (nI k))]) (by decide) (Nat.le_of_ble_eq_true rfl) rfl ?_
  intro p e s m below meth c hmn hrt C
  refine z_iconst (v := 1) C dX5_areUsable_0 (by decide) ?_
  refine z_casti (y := bI true) (rfl) ?_
  refine z_istore_n (lv' := [(3, .int (bI true)), (0, .ref (base + 16)), (1, .int (nI P)), (2, .int (nI k))]) C dX5_areUsable_1 rfl (by decide) rfl ?_
  refine z_iload_n C dX5_areUsable_2 rfl 2 rfl ?_
  refine z_istore (lv' := [(4, .int (nI P)), (3, .int (bI true)), (0, .ref (base + 16)), (1, .int (nI P)), (2, .int (nI k))]) C dX5_areUsable_3 (by decide) rfl ?_
  refine z_lv (lv' := [(4, .int (nI P)), (3, .int (bI true)), (0, .ref (base + 16)), (1, .int (nI P)), (2, .int (nI k))]) [0, 1, 2, 3, 4] rfl ?_
  have loop : ∀ (n : Nat) (z : Nat) (b : Bool), (P ≤ z ∧ z ≤ P + k) → (P + k + 1 ≤ n + z) → ((b && r_au (r.2.2 0) (P + k - z) z) = r_au (r.2.2 0) k P) → z_R p l e (z_rm 0 0 0) s m ([Value.ref (base + 16), .int (nI P), .int (nI k)] : List Value).toArray below meth c (MQ below (z_Qc G base (fun v hp' => v = some (.int (bI (r_au (r.2.2 0) k P))) ∧ hp' = hpM G base xs r tl)) ([Value.ref (base + 16), .int (nI P), .int (nI k)] : List Value).toArray s 0 0 (fun z => base ≤ z)) G base 5 0 0 5 [(4, .int (nI z)), (3, .int (bI b)), (0, .ref (base + 16)), (1, .int (nI P)), (2, .int (nI k))] [] (hpM G base xs r tl) := by
    intro n
    induction n with
    | zero => intro z b hz hn0 hv; exact absurd hn0 (by omega)
    | succ n ih =>
      intro z b hz hn0 hv
      refine z_iload C dX5_areUsable_5 0 rfl ?_
      refine z_iload_n C dX5_areUsable_7 rfl 3 rfl ?_
      refine z_iload_n C dX5_areUsable_8 rfl 4 rfl ?_
      refine z_iadd C dX5_areUsable_9 ?_
      refine z_casti (y := nI (P + k)) (nI_add _ _) ?_
      refine z_icmp_ge (tgt := 47) C dX5_areUsable_10 (by decide) (fun h10 => ?_) (fun h10 => ?_)
      · skip
        have ze : z = P + k := by
          rcases Nat.lt_or_ge z (P + k) with q9 | q9
          · exact absurd h10 (nI_ge q9 (by omega))
          · omega
        refine z_iload_n C dX5_areUsable_47 rfl 1 rfl ?_
        exact z_iret C hrt (nar_b _) dX5_areUsable_48 (by decide) (by decide) (⟨by rw [← hv, ze, Nat.sub_self]; show some (Value.int (bI b)) = some (Value.int (bI (b && true))); rw [Bool.and_true], rfl⟩)
      · skip
        have zl : z < P + k := by
          rcases Nat.lt_or_ge z (P + k) with q9 | q9
          · exact q9
          · exact absurd (nI_le q9 (by omega)) h10
        refine z_iload_n C dX5_areUsable_13 rfl 1 rfl ?_
        refine z_if_eq (tgt := 39) C dX5_areUsable_14 (by decide) (fun h14 => ?_) (fun h14 => ?_)
        · skip
          refine z_iconst (v := 0) C dX5_areUsable_39 (by decide) ?_
          refine z_casti (y := bI (b && decide (z < 256 ∧ ¬ r.2.2 0 z = 0))) (by first | (rw [bI_nt h14, show decide (z < 256 ∧ ¬ r.2.2 0 z = 0) = true from decide_eq_true ⟨z2, h32⟩]; rfl) | (rw [bI_ff h14]; rfl) | (rw [show decide (z < 256 ∧ ¬ r.2.2 0 z = 0) = false from decide_eq_false (fun q => by first | exact absurd h22 (nI_ge q.1 (by decide)) | exact q.2 h32), Bool.and_false]; rfl)) ?_
          refine z_istore_n (lv' := [(3, .int (bI (b && decide (z < 256 ∧ ¬ r.2.2 0 z = 0)))), (4, .int (nI z)), (0, .ref (base + 16)), (1, .int (nI P)), (2, .int (nI k))]) C dX5_areUsable_40 rfl (by decide) rfl ?_
          refine z_iinc (k := 1) (v := nI (z + 1)) (lv' := [(4, .int (nI (z + 1))), (3, .int (bI (b && decide (z < 256 ∧ ¬ r.2.2 0 z = 0)))), (0, .ref (base + 16)), (1, .int (nI P)), (2, .int (nI k))]) C dX5_areUsable_41 rfl (nI_1 z) (by decide) rfl ?_
          refine z_goto (tgt := 5) C dX5_areUsable_44 (by decide) ?_
          refine z_lv (lv' := [(4, .int (nI (z + 1))), (3, .int (bI (b && decide (z < 256 ∧ ¬ r.2.2 0 z = 0)))), (0, .ref (base + 16)), (1, .int (nI P)), (2, .int (nI k))]) [0, 1, 2, 3, 4] rfl ?_
          exact ih (z + 1) _ (by omega) (by omega) (by rw [← hv, show P + k - z = (P + k - (z + 1)) + 1 by omega]; exact Bool.and_assoc _ _ _)
        · skip
          refine z_iload C dX5_areUsable_17 0 rfl ?_
          refine z_sipush (v := 256) C dX5_areUsable_19 (by decide) ?_
          refine z_icmp_ge (tgt := 39) C dX5_areUsable_22 (by decide) (fun h22 => ?_) (fun h22 => ?_)
          · skip
            refine z_iconst (v := 0) C dX5_areUsable_39 (by decide) ?_
            refine z_casti (y := bI (b && decide (z < 256 ∧ ¬ r.2.2 0 z = 0))) (by first | (rw [bI_nt h14, show decide (z < 256 ∧ ¬ r.2.2 0 z = 0) = true from decide_eq_true ⟨z2, h32⟩]; rfl) | (rw [bI_ff h14]; rfl) | (rw [show decide (z < 256 ∧ ¬ r.2.2 0 z = 0) = false from decide_eq_false (fun q => by first | exact absurd h22 (nI_ge q.1 (by decide)) | exact q.2 h32), Bool.and_false]; rfl)) ?_
            refine z_istore_n (lv' := [(3, .int (bI (b && decide (z < 256 ∧ ¬ r.2.2 0 z = 0)))), (4, .int (nI z)), (0, .ref (base + 16)), (1, .int (nI P)), (2, .int (nI k))]) C dX5_areUsable_40 rfl (by decide) rfl ?_
            refine z_iinc (k := 1) (v := nI (z + 1)) (lv' := [(4, .int (nI (z + 1))), (3, .int (bI (b && decide (z < 256 ∧ ¬ r.2.2 0 z = 0)))), (0, .ref (base + 16)), (1, .int (nI P)), (2, .int (nI k))]) C dX5_areUsable_41 rfl (nI_1 z) (by decide) rfl ?_
            refine z_goto (tgt := 5) C dX5_areUsable_44 (by decide) ?_
            refine z_lv (lv' := [(4, .int (nI (z + 1))), (3, .int (bI (b && decide (z < 256 ∧ ¬ r.2.2 0 z = 0)))), (0, .ref (base + 16)), (1, .int (nI P)), (2, .int (nI k))]) [0, 1, 2, 3, 4] rfl ?_
            exact ih (z + 1) _ (by omega) (by omega) (by rw [← hv, show P + k - z = (P + k - (z + 1)) + 1 by omega]; exact Bool.and_assoc _ _ _)
          · skip
            have z2 : z < 256 := by
              rcases Nat.lt_or_ge z 256 with q9 | q9
              · exact q9
              · exact absurd (nI_le (a := 256) (b := z) q9 (by omega)) h22
            refine z_aload_n C dX5_areUsable_25 rfl 2 rfl ?_
            refine z_get C fl_X5_13 dX5_areUsable_26 rfl rfl ?_
            refine z_iload C dX5_areUsable_29 0 rfl ?_
            refine z_zaldN C dX5_areUsable_31 rfl (by omega) (by decide) ?_
            refine z_if_eq (tgt := 39) C dX5_areUsable_32 (by decide) (fun h32 => ?_) (fun h32 => ?_)
            · skip
              refine z_iconst (v := 0) C dX5_areUsable_39 (by decide) ?_
              refine z_casti (y := bI (b && decide (z < 256 ∧ ¬ r.2.2 0 z = 0))) (by first | (rw [bI_nt h14, show decide (z < 256 ∧ ¬ r.2.2 0 z = 0) = true from decide_eq_true ⟨z2, h32⟩]; rfl) | (rw [bI_ff h14]; rfl) | (rw [show decide (z < 256 ∧ ¬ r.2.2 0 z = 0) = false from decide_eq_false (fun q => by first | exact absurd h22 (nI_ge q.1 (by decide)) | exact q.2 h32), Bool.and_false]; rfl)) ?_
              refine z_istore_n (lv' := [(3, .int (bI (b && decide (z < 256 ∧ ¬ r.2.2 0 z = 0)))), (4, .int (nI z)), (0, .ref (base + 16)), (1, .int (nI P)), (2, .int (nI k))]) C dX5_areUsable_40 rfl (by decide) rfl ?_
              refine z_iinc (k := 1) (v := nI (z + 1)) (lv' := [(4, .int (nI (z + 1))), (3, .int (bI (b && decide (z < 256 ∧ ¬ r.2.2 0 z = 0)))), (0, .ref (base + 16)), (1, .int (nI P)), (2, .int (nI k))]) C dX5_areUsable_41 rfl (nI_1 z) (by decide) rfl ?_
              refine z_goto (tgt := 5) C dX5_areUsable_44 (by decide) ?_
              refine z_lv (lv' := [(4, .int (nI (z + 1))), (3, .int (bI (b && decide (z < 256 ∧ ¬ r.2.2 0 z = 0)))), (0, .ref (base + 16)), (1, .int (nI P)), (2, .int (nI k))]) [0, 1, 2, 3, 4] rfl ?_
              exact ih (z + 1) _ (by omega) (by omega) (by rw [← hv, show P + k - z = (P + k - (z + 1)) + 1 by omega]; exact Bool.and_assoc _ _ _)
            · skip
              refine z_iconst (v := 1) C dX5_areUsable_35 (by decide) ?_
              refine z_goto (tgt := 40) C dX5_areUsable_36 (by decide) ?_
              refine z_casti (y := bI (b && decide (z < 256 ∧ ¬ r.2.2 0 z = 0))) (by first | (rw [bI_nt h14, show decide (z < 256 ∧ ¬ r.2.2 0 z = 0) = true from decide_eq_true ⟨z2, h32⟩]; rfl) | (rw [bI_ff h14]; rfl) | (rw [show decide (z < 256 ∧ ¬ r.2.2 0 z = 0) = false from decide_eq_false (fun q => by first | exact absurd h22 (nI_ge q.1 (by decide)) | exact q.2 h32), Bool.and_false]; rfl)) ?_
              refine z_istore_n (lv' := [(3, .int (bI (b && decide (z < 256 ∧ ¬ r.2.2 0 z = 0)))), (4, .int (nI z)), (0, .ref (base + 16)), (1, .int (nI P)), (2, .int (nI k))]) C dX5_areUsable_40 rfl (by decide) rfl ?_
              refine z_iinc (k := 1) (v := nI (z + 1)) (lv' := [(4, .int (nI (z + 1))), (3, .int (bI (b && decide (z < 256 ∧ ¬ r.2.2 0 z = 0)))), (0, .ref (base + 16)), (1, .int (nI P)), (2, .int (nI k))]) C dX5_areUsable_41 rfl (nI_1 z) (by decide) rfl ?_
              refine z_goto (tgt := 5) C dX5_areUsable_44 (by decide) ?_
              refine z_lv (lv' := [(4, .int (nI (z + 1))), (3, .int (bI (b && decide (z < 256 ∧ ¬ r.2.2 0 z = 0)))), (0, .ref (base + 16)), (1, .int (nI P)), (2, .int (nI k))]) [0, 1, 2, 3, 4] rfl ?_
              exact ih (z + 1) _ (by omega) (by omega) (by rw [← hv, show P + k - z = (P + k - (z + 1)) + 1 by omega]; exact Bool.and_assoc _ _ _)
  exact loop (k + 1) P true (by omega) (by omega) (by rw [Nat.add_sub_cancel_left]; rfl)

set_option maxHeartbeats 4000000 in
set_option maxRecDepth 100000 in
theorem m_X5_start (l : Launch) (G : z_G) (base : Nat) (xs : Nat → va_E) (r : r_T) (tl : List va_E) (hfo : ∀ p, r.2.1 1 p < 256) (hst : r.1 0 = 0) : z_M l G base yX5_start cX5_start 3 (some .int) 1 0 0 [.ref (base + 16)] (hpM G base xs r tl) (fun v hp' => v = some (.int (nI (r_sum (fun p => if r.2.2 0 p = 0 then 0 else 1) 256))) ∧ hp' = hpM G base xs (r_st (r.2.2 0) 256 0 (upd r.1 0 1, r.2)) tl) := by
  refine z_M.of (lv0 := [(0, .ref (base + 16))]) (by decide) (Nat.le_of_ble_eq_true rfl) rfl ?_
  intro p e s m below meth c hmn hrt C
  refine z_aload_n C dX5_start_0 rfl 0 rfl ?_
  refine z_get C fl_X5_58 dX5_start_1 rfl rfl ?_
  refine z_if_eq (tgt := 9) C dX5_start_4 (by decide) (fun h4 => ?_) (fun h4 => absurd h4 (fun q => q hst))
  refine z_aload_n C dX5_start_9 rfl 0 rfl ?_
  refine z_iconst (v := 1) C dX5_start_10 (by decide) ?_
  refine z_put C fl_X5_58 fp_X5 rfl dX5_start_11 rfl (by simp) rfl rfl ?_
  refine z_iconst (v := 0) C dX5_start_14 (by decide) ?_
  refine z_casti (y := nI 0) (rfl) ?_
  refine z_istore_n (lv' := [(1, .int (nI 0)), (0, .ref (base + 16))]) C dX5_start_15 rfl (by decide) rfl ?_
  refine z_lv (lv' := [(1, .int (nI 0)), (0, .ref (base + 16))]) [0, 1] rfl ?_
  have loop : ∀ (n : Nat) (z : Nat) (r1 : r_T), (z ≤ 256) → (257 ≤ n + z) → (∀ p, r1.2.1 1 p < 256) → (r1.2.2 0 = r.2.2 0) → (∃ q, 256 ≤ q + z ∧ r_st (r.2.2 0) q z r1 = r_st (r.2.2 0) 256 0 (upd r.1 0 1, r.2)) → z_R p l e (z_rm 1 0 0) s m ([Value.ref (base + 16)] : List Value).toArray below meth c (MQ below (z_Qc G base (fun v hp' => v = some (.int (nI (r_sum (fun p => if r.2.2 0 p = 0 then 0 else 1) 256))) ∧ hp' = hpM G base xs (r_st (r.2.2 0) 256 0 (upd r.1 0 1, r.2)) tl)) ([Value.ref (base + 16)] : List Value).toArray s 0 0 (fun z => base ≤ z)) G base 3 0 0 16 [(1, .int (nI z)), (0, .ref (base + 16))] [] (hpM G base xs r1 tl) := by
    intro n
    induction n with
    | zero => intro z r1 hz hn0 hfo1 hus hv; exact absurd hn0 (by omega)
    | succ n ih =>
      intro z r1 hz hn0 hfo1 hus hv
      have iho := ih
      refine z_iload_n C dX5_start_16 rfl 0 rfl ?_
      refine z_sipush (v := 256) C dX5_start_17 (by decide) ?_
      refine z_icmp_ge (tgt := 82) C dX5_start_20 (by decide) (fun h20 => ?_) (fun h20 => ?_)
      · skip
        have ze : z = 256 := by
          rcases Nat.lt_or_ge z 256 with q9 | q9
          · exact absurd h20 (nI_ge q9 (by decide))
          · omega
        refine z_aload_n C dX5_start_82 rfl 1 rfl ?_
        refine z_callV (rest := []) C (m_X5_usablePages l G base xs r1 tl) ml_X5_74 kw_X5_usablePages rfl rfl rfl rfl (by simp [Value.category]) dX5_start_83 (by decide) (by decide) (by decide) (by decide) ?_
        rintro _ _ ⟨rfl, rfl⟩
        refine z_st (st' := [.int (nI (r_sum (fun p => if r1.2.2 0 p = 0 then 0 else 1) 256))]) rfl ?_
        exact z_iret C hrt rfl dX5_start_86 (by decide) (by decide) (⟨by rw [hus], by obtain ⟨q, hq, hqe⟩ := hv; rw [← hqe, ze]; cases q with | zero => rfl | succ q => unfold r_st; rw [if_neg (by omega)]⟩)
      · skip
        have zl : z < 256 := by
          rcases Nat.lt_or_ge z 256 with q9 | q9
          · exact q9
          · exact absurd (nI_le (a := 256) (b := z) q9 (by omega)) h20
        refine z_aload_n C dX5_start_23 rfl 1 rfl ?_
        refine z_get C fl_X5_13 dX5_start_24 rfl rfl ?_
        refine z_iload_n C dX5_start_27 rfl 0 rfl ?_
        refine z_zaldN C dX5_start_28 rfl (by omega) (by decide) ?_
        refine z_if_eq (tgt := 76) C dX5_start_29 (by decide) (fun h29 => ?_) (fun h29 => ?_)
        · skip
          refine z_iinc (k := 0) (v := nI (z + 1)) (lv' := [(1, .int (nI (z + 1))), (0, .ref (base + 16))]) C dX5_start_76 rfl (nI_1 z) (by decide) rfl ?_
          refine z_goto (tgt := 16) C dX5_start_79 (by decide) ?_
          refine z_lv (lv' := [(1, .int (nI (z + 1))), (0, .ref (base + 16))]) [0, 1] rfl ?_
          exact iho (z + 1) r1 (by omega) (by omega) hfo1 hus (by obtain ⟨q, hq, hqe⟩ := hv; obtain ⟨q1, rfl⟩ : ∃ q1, q = q1 + 1 := ⟨q - 1, by omega⟩; refine ⟨q1, by omega, ?_⟩; rw [← hqe]; conv => rhs; unfold r_st; rw [if_pos zl, if_pos (by rw [← hus]; exact h29)])
        · skip
          refine z_bipush (v := 6) C dX5_start_32 (by decide) ?_
          refine z_casti (y := nI 6) (rfl) ?_
          refine z_istore_n (lv' := [(2, .int (nI 6)), (1, .int (nI z)), (0, .ref (base + 16))]) C dX5_start_34 rfl (by decide) rfl ?_
          refine z_lv (lv' := [(2, .int (nI 6)), (1, .int (nI z)), (0, .ref (base + 16))]) [0, 1, 2] rfl ?_
          have loop2 : ∀ (n : Nat) (j : Nat), (j ≤ 6) → (j + 1 ≤ n) → (r_so (r.2.2 0) z j = r_so (r.2.2 0) z 6) → z_R p l e (z_rm 1 0 0) s m ([Value.ref (base + 16)] : List Value).toArray below meth c (MQ below (z_Qc G base (fun v hp' => v = some (.int (nI (r_sum (fun p => if r.2.2 0 p = 0 then 0 else 1) 256))) ∧ hp' = hpM G base xs (r_st (r.2.2 0) 256 0 (upd r.1 0 1, r.2)) tl)) ([Value.ref (base + 16)] : List Value).toArray s 0 0 (fun z => base ≤ z)) G base 3 0 0 35 [(2, .int (nI j)), (1, .int (nI z)), (0, .ref (base + 16))] [] (hpM G base xs r1 tl) := by
            intro n
            induction n with
            | zero => intro j hj hn0 hvi; exact absurd hn0 (by omega)
            | succ n ih =>
              intro j hj hn0 hvi
              have ihi := ih
              have hp2 := two_le j (by omega)
              have hpos := Nat.two_pow_pos j
              refine z_iload_n C dX5_start_35 rfl 1 rfl ?_
              refine z_iconst (v := 1) C dX5_start_36 (by decide) ?_
              refine z_iload_n C dX5_start_37 rfl 0 rfl ?_
              refine z_ishl C dX5_start_38 ?_
              refine z_casti (y := nI (2 ^ j)) (nI_1lt _ (by omega)) ?_
              refine z_irem C dX5_start_39 (nI_ne0 hpos (by omega)) ?_
              refine z_casti (y := nI (z % 2 ^ j)) (pk_rem (by omega) hpos (by omega)) ?_
              refine z_if_ne (tgt := 54) C dX5_start_40 (by decide) (fun h40 => ?_) (fun h40 => ?_)
              · skip
                have hno0 : ¬ (z % 2 ^ j = 0 ∧ r_au (r.2.2 0) (2 ^ j) z = true) := fun q => h40 (by rw [q.1]; rfl)
                obtain ⟨j1, rfl⟩ : ∃ j1, j = j1 + 1 := by
                  cases j with
                  | zero => exact absurd ⟨Nat.mod_one z, by show (decide (z < 256 ∧ ¬ r.2.2 0 z = 0) && true) = true; rw [decide_eq_true ⟨zl, by rw [← hus]; exact h29⟩]; rfl⟩ hno0
                  | succ j1 => exact ⟨j1, rfl⟩
                have hno := hno0
                refine z_iinc (k := 0) (v := nI j1) (lv' := [(2, .int (nI j1)), (1, .int (nI z)), (0, .ref (base + 16))]) C dX5_start_54 rfl (by rw [add_m1]; exact nI_pred _) (by decide) rfl ?_
                refine z_goto (tgt := 35) C dX5_start_57 (by decide) ?_
                refine z_lv (lv' := [(2, .int (nI j1)), (1, .int (nI z)), (0, .ref (base + 16))]) [0, 1, 2] rfl ?_
                exact ihi j1 (by omega) (by omega) (by rw [← hvi]; exact (if_neg hno).symm)
              · skip
                refine z_aload_n C dX5_start_43 rfl 2 rfl ?_
                refine z_iload_n C dX5_start_44 rfl 1 rfl ?_
                refine z_iconst (v := 1) C dX5_start_45 (by decide) ?_
                refine z_iload_n C dX5_start_46 rfl 0 rfl ?_
                refine z_ishl C dX5_start_47 ?_
                refine z_casti (y := nI (2 ^ j)) (nI_1lt _ (by omega)) ?_
                refine z_callV (rest := []) C (m_X5_areUsable l G base xs r1 tl z (2 ^ j) zl hp2) ml_X5_66 kw_X5_areUsable rfl rfl rfl rfl (by simp [Value.category]) dX5_start_48 (by decide) (by decide) (by decide) (by decide) ?_
                rintro _ _ ⟨rfl, rfl⟩
                refine z_st (st' := [.int ((bI (r_au (r1.2.2 0) (2 ^ j) z)))]) rfl ?_
                refine z_if_ne (tgt := 60) C dX5_start_51 (by decide) (fun h51 => ?_) (fun h51 => ?_)
                · skip
                  have hso : j = r_so (r.2.2 0) z 6 := by
                    rw [← hvi]
                    cases j with
                    | zero => rfl
                    | succ j1 => exact (if_pos ⟨(nI_eq (b := 0) (by have := Nat.mod_lt z hpos; omega) (by decide)).mp h40, by rw [← hus]; exact bI_nt h51⟩).symm
                  have hzj : z + 2 ^ j ≤ 256 := by rw [hso]; exact r_so_in zl 6
                  refine z_aload_n C dX5_start_60 rfl 2 rfl ?_
                  refine z_iload_n C dX5_start_61 rfl 1 rfl ?_
                  refine z_iload_n C dX5_start_62 rfl 0 rfl ?_
                  refine z_iconst (v := 0) C dX5_start_63 (by decide) ?_
                  refine z_callV (rest := []) C (m_X5_makeBlock l G base xs r1 tl z j 0 hj hzj rfl) ml_X5_70 kw_X5_makeBlock rfl rfl rfl rfl (by simp [Value.category]) dX5_start_64 (by decide) (by decide) (by decide) (by decide) ?_
                  rintro _ _ ⟨rfl, rfl⟩
                  refine z_st (st' := []) rfl ?_
                  refine z_iload_n C dX5_start_67 rfl 1 rfl ?_
                  refine z_iconst (v := 1) C dX5_start_68 (by decide) ?_
                  refine z_iload_n C dX5_start_69 rfl 0 rfl ?_
                  refine z_ishl C dX5_start_70 ?_
                  refine z_casti (y := nI (2 ^ j)) (nI_1lt _ (by omega)) ?_
                  refine z_iadd C dX5_start_71 ?_
                  refine z_casti (y := nI (z + 2 ^ j)) (nI_add _ _) ?_
                  refine z_istore_n (lv' := [(1, .int (nI (z + 2 ^ j))), (2, .int (nI j)), (0, .ref (base + 16))]) C dX5_start_72 rfl (by decide) rfl ?_
                  refine z_goto (tgt := 16) C dX5_start_73 (by decide) ?_
                  refine z_lv (lv' := [(1, .int (nI (z + 2 ^ j))), (0, .ref (base + 16))]) [0, 2] rfl ?_
                  exact iho (z + 2 ^ j) _ (by omega) (by omega) (r_mk_fo hfo1 zl) hus (by obtain ⟨q, hq, hqe⟩ := hv; obtain ⟨q1, rfl⟩ : ∃ q1, q = q1 + 1 := ⟨q - 1, by omega⟩; refine ⟨q1, by omega, ?_⟩; rw [← hqe]; conv => rhs; unfold r_st; rw [if_pos zl, if_neg (by rw [← hus]; exact h29), ← hso])
                · skip
                  have hno0 : ¬ (z % 2 ^ j = 0 ∧ r_au (r.2.2 0) (2 ^ j) z = true) := fun q => by rw [← hus] at q; rw [bI_ff h51] at q; exact Bool.noConfusion q.2
                  obtain ⟨j1, rfl⟩ : ∃ j1, j = j1 + 1 := by
                    cases j with
                    | zero => exact absurd ⟨Nat.mod_one z, by show (decide (z < 256 ∧ ¬ r.2.2 0 z = 0) && true) = true; rw [decide_eq_true ⟨zl, by rw [← hus]; exact h29⟩]; rfl⟩ hno0
                    | succ j1 => exact ⟨j1, rfl⟩
                  have hno := hno0
                  refine z_iinc (k := 0) (v := nI j1) (lv' := [(2, .int (nI j1)), (1, .int (nI z)), (0, .ref (base + 16))]) C dX5_start_54 rfl (by rw [add_m1]; exact nI_pred _) (by decide) rfl ?_
                  refine z_goto (tgt := 35) C dX5_start_57 (by decide) ?_
                  refine z_lv (lv' := [(2, .int (nI j1)), (1, .int (nI z)), (0, .ref (base + 16))]) [0, 1, 2] rfl ?_
                  exact ihi j1 (by omega) (by omega) (by rw [← hvi]; exact (if_neg hno).symm)
          exact loop2 7 6 (by omega) (by omega) rfl
  refine z_hp (hp' := hpM G base xs (upd r.1 0 1, r.2) tl) rfl ?_
  exact loop 257 0 (upd r.1 0 1, r.2) (by omega) (by omega) hfo rfl ⟨256, by omega, rfl⟩

set_option maxHeartbeats 4000000 in
set_option maxRecDepth 100000 in
theorem m_X5_start_2 (l : Launch) (G : z_G) (base : Nat) (xs : Nat → va_E) (r : r_T) (tl : List va_E) (hst : ¬ r.1 0 = 0) : z_M l G base yX5_start cX5_start 3 (some .int) 1 0 0 [.ref (base + 16)] (hpM G base xs r tl) (fun v hp' => v = some (.int (-1)) ∧ hp' = hpM G base xs r tl) := by
  refine z_M.of (lv0 := [(0, .ref (base + 16))]) (by decide) (Nat.le_of_ble_eq_true rfl) rfl ?_
  intro p e s m below meth c hmn hrt C
  refine z_aload_n C dX5_start_0 rfl 0 rfl ?_
  refine z_get C fl_X5_58 dX5_start_1 rfl rfl ?_
  refine z_if_eq (tgt := 9) C dX5_start_4 (by decide) (fun h4 => absurd h4 (hst)) (fun h4 => ?_)
  refine z_iconst (v := -1) C dX5_start_7 (by decide) ?_
  exact z_iret C hrt rfl dX5_start_8 (by decide) (by decide) (⟨rfl, rfl⟩)
