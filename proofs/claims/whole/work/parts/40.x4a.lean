set_option maxHeartbeats 4000000 in
set_option maxRecDepth 100000 in
theorem m_X4_isAddress (l : Launch) (G : z_G) (base : Nat) (hp : List va_E) (x : Int32) : z_M l G base yX4_isAddress cX4_isAddress 1 (some .boolean) 0 0 0 [.int (x)] hp (fun v hp' => v = some (.int (bI (decide (0 ≤ x ∧ x < 16384)))) ∧ hp' = hp) := by
  refine z_M.of (lv0 := [(0, .int (x))]) (by decide) (Nat.le_of_ble_eq_true rfl) rfl ?_
  intro p e s m below meth c hmn hrt C
  refine z_iload_n C dX4_isAddress_0 rfl 0 rfl ?_
  refine z_if_lt (tgt := 15) C dX4_isAddress_1 (by decide) (fun h1 => ?_) (fun h1 => ?_)
  · skip
    refine z_iconst (v := 0) C dX4_isAddress_15 (by decide) ?_
    exact z_iret C hrt rfl dX4_isAddress_16 (by decide) (by decide) (⟨by rw [← bI_f (fun q => by first | exact absurd h1 (Int32.not_lt.mpr q.1) | exact absurd q.2 (Int32.not_lt.mpr h8))], rfl⟩)
  · skip
    refine z_iload_n C dX4_isAddress_4 rfl 0 rfl ?_
    refine z_sipush (v := 16384) C dX4_isAddress_5 (by decide) ?_
    refine z_icmp_ge (tgt := 15) C dX4_isAddress_8 (by decide) (fun h8 => ?_) (fun h8 => ?_)
    · skip
      refine z_iconst (v := 0) C dX4_isAddress_15 (by decide) ?_
      exact z_iret C hrt rfl dX4_isAddress_16 (by decide) (by decide) (⟨by rw [← bI_f (fun q => by first | exact absurd h1 (Int32.not_lt.mpr q.1) | exact absurd q.2 (Int32.not_lt.mpr h8))], rfl⟩)
    · skip
      refine z_iconst (v := 1) C dX4_isAddress_11 (by decide) ?_
      refine z_goto (tgt := 16) C dX4_isAddress_12 (by decide) ?_
      exact z_iret C hrt rfl dX4_isAddress_16 (by decide) (by decide) (⟨by rw [← bI_t ⟨Int32.not_lt.mp h1, Int32.not_le.mp h8⟩], rfl⟩)

set_option maxHeartbeats 4000000 in
set_option maxRecDepth 100000 in
theorem m_X4_isOrder (l : Launch) (G : z_G) (base : Nat) (hp : List va_E) (x : Int32) : z_M l G base yX4_isOrder cX4_isOrder 1 (some .boolean) 0 0 0 [.int (x)] hp (fun v hp' => v = some (.int (bI (decide (0 ≤ x ∧ x ≤ 6)))) ∧ hp' = hp) := by
  refine z_M.of (lv0 := [(0, .int (x))]) (by decide) (Nat.le_of_ble_eq_true rfl) rfl ?_
  intro p e s m below meth c hmn hrt C
  refine z_iload_n C dX4_isOrder_0 rfl 0 rfl ?_
  refine z_if_lt (tgt := 14) C dX4_isOrder_1 (by decide) (fun h1 => ?_) (fun h1 => ?_)
  · skip
    refine z_iconst (v := 0) C dX4_isOrder_14 (by decide) ?_
    exact z_iret C hrt rfl dX4_isOrder_15 (by decide) (by decide) (⟨by rw [← bI_f (fun q => by first | exact absurd h1 (Int32.not_lt.mpr q.1) | exact absurd h7 (Int32.not_lt.mpr q.2))], rfl⟩)
  · skip
    refine z_iload_n C dX4_isOrder_4 rfl 0 rfl ?_
    refine z_bipush (v := 6) C dX4_isOrder_5 (by decide) ?_
    refine z_icmp_gt (tgt := 14) C dX4_isOrder_7 (by decide) (fun h7 => ?_) (fun h7 => ?_)
    · skip
      refine z_iconst (v := 0) C dX4_isOrder_14 (by decide) ?_
      exact z_iret C hrt rfl dX4_isOrder_15 (by decide) (by decide) (⟨by rw [← bI_f (fun q => by first | exact absurd h1 (Int32.not_lt.mpr q.1) | exact absurd h7 (Int32.not_lt.mpr q.2))], rfl⟩)
    · skip
      refine z_iconst (v := 1) C dX4_isOrder_10 (by decide) ?_
      refine z_goto (tgt := 15) C dX4_isOrder_11 (by decide) ?_
      exact z_iret C hrt rfl dX4_isOrder_15 (by decide) (by decide) (⟨by rw [← bI_t ⟨Int32.not_lt.mp h1, Int32.not_lt.mp h7⟩], rfl⟩)

set_option maxHeartbeats 4000000 in
set_option maxRecDepth 100000 in
theorem m_X4_isBySize (l : Launch) (G : z_G) (base : Nat) (hp : List va_E) (x : Int32) : z_M l G base yX4_isBySize cX4_isBySize 1 (some .boolean) 0 0 0 [.int (x)] hp (fun v hp' => v = some (.int (bI (decide (1 ≤ x ∧ x ≤ 4096)))) ∧ hp' = hp) := by
  refine z_M.of (lv0 := [(0, .int (x))]) (by decide) (Nat.le_of_ble_eq_true rfl) rfl ?_
  intro p e s m below meth c hmn hrt C
  refine z_iload_n C dX4_isBySize_0 rfl 0 rfl ?_
  refine z_iconst (v := 1) C dX4_isBySize_1 (by decide) ?_
  refine z_icmp_lt (tgt := 16) C dX4_isBySize_2 (by decide) (fun h2 => ?_) (fun h2 => ?_)
  · skip
    refine z_iconst (v := 0) C dX4_isBySize_16 (by decide) ?_
    exact z_iret C hrt rfl dX4_isBySize_17 (by decide) (by decide) (⟨by rw [← bI_f (fun q => by first | exact absurd h2 (Int32.not_lt.mpr q.1) | exact absurd h9 (Int32.not_lt.mpr q.2))], rfl⟩)
  · skip
    refine z_iload_n C dX4_isBySize_5 rfl 0 rfl ?_
    refine z_sipush (v := 4096) C dX4_isBySize_6 (by decide) ?_
    refine z_icmp_gt (tgt := 16) C dX4_isBySize_9 (by decide) (fun h9 => ?_) (fun h9 => ?_)
    · skip
      refine z_iconst (v := 0) C dX4_isBySize_16 (by decide) ?_
      exact z_iret C hrt rfl dX4_isBySize_17 (by decide) (by decide) (⟨by rw [← bI_f (fun q => by first | exact absurd h2 (Int32.not_lt.mpr q.1) | exact absurd h9 (Int32.not_lt.mpr q.2))], rfl⟩)
    · skip
      refine z_iconst (v := 1) C dX4_isBySize_12 (by decide) ?_
      refine z_goto (tgt := 17) C dX4_isBySize_13 (by decide) ?_
      exact z_iret C hrt rfl dX4_isBySize_17 (by decide) (by decide) (⟨by rw [← bI_t ⟨Int32.not_lt.mp h2, Int32.not_lt.mp h9⟩], rfl⟩)

set_option maxHeartbeats 4000000 in
set_option maxRecDepth 100000 in
theorem m_X4_cacheOf (l : Launch) (G : z_G) (base : Nat) (sc td : Nat → Int32) (q : q_T) (nc : Nat) (cf : Nat → Nat → Int32) (pl : Nat → Nat) (S : Nat → Option s_T) (mem : Nat → Nat) (hp : List va_E) (hC : C_ok G base sc td q nc cf pl S mem hp) (hnc : nc ≤ 12) (x : Int32) : z_M l G base yX4_cacheOf cX4_cacheOf 2 (some (.object "PageSlabs$Cache")) 0 0 0 [.ref (base + 0), .int (x)] hp (fun v hp' => v = some (va_rf (c_co base nc pl (x))) ∧ hp' = hp) := by
  refine z_M.of (lv0 := [(0, .ref (base + 0)), (1, .int (x))]) (by decide) (Nat.le_of_ble_eq_true rfl) rfl ?_
  intro p e s m below meth c hmn hrt C
  refine z_iload_n C dX4_cacheOf_0 rfl 1 rfl ?_
  refine z_if_lt (tgt := 27) C dX4_cacheOf_1 (by decide) (fun h1 => ?_) (fun h1 => ?_)
  · skip
    refine z_null C dX4_cacheOf_27 ?_
    exact z_aret (x := none) C hrt dX4_cacheOf_28 (by decide) (by decide) (⟨by rw [show c_co base nc pl x = none from if_neg (by first | exact fun q => absurd h1 (Int32.not_lt.mpr q.1) | exact fun q => absurd h9 (Int32.not_le.mpr q.2))], rfl⟩)
  · skip
    refine z_iload_n C dX4_cacheOf_4 rfl 1 rfl ?_
    refine z_aload_n C dX4_cacheOf_5 rfl 0 rfl ?_
    refine z_get C fl_X4_44 dX4_cacheOf_6 hC.1 rfl ?_
    refine z_icmp_ge (tgt := 27) C dX4_cacheOf_9 (by decide) (fun h9 => ?_) (fun h9 => ?_)
    · skip
      refine z_null C dX4_cacheOf_27 ?_
      exact z_aret (x := none) C hrt dX4_cacheOf_28 (by decide) (by decide) (⟨by rw [show c_co base nc pl x = none from if_neg (by first | exact fun q => absurd h1 (Int32.not_lt.mpr q.1) | exact fun q => absurd h9 (Int32.not_le.mpr q.2))], rfl⟩)
    · skip
      have hxx : 0 ≤ x ∧ x < nI nc := ⟨Int32.not_lt.mp h1, Int32.not_le.mp h9⟩
      obtain ⟨c0, hc0, rfl⟩ : ∃ c, c < nc ∧ x = nI c := by
        rcases c_co_cases (base := base) (pl := pl) hnc x with h | ⟨c, h1, h2, -⟩
        · exact absurd hxx h.2
        · exact ⟨c, h1, h2⟩
      refine z_iload_n C dX4_cacheOf_12 rfl 1 rfl ?_
      refine z_bipush (v := 12) C dX4_cacheOf_13 (by decide) ?_
      refine z_icmp_ge (tgt := 27) C dX4_cacheOf_15 (by decide) (fun h15 => absurd h15 (nI_ge (b := 12) (by omega) (by decide))) (fun h15 => ?_)
      refine z_aload_n C dX4_cacheOf_18 rfl 0 rfl ?_
      refine z_get C fl_X4_31 dX4_cacheOf_19 hC.1 rfl ?_
      refine z_iload_n C dX4_cacheOf_22 rfl 1 rfl ?_
      refine z_aaldN (t := 4) C rfl dX4_cacheOf_23 hC.2.2.2.2.2.1 (by omega) (by decide) ?_
      refine z_goto (tgt := 28) C dX4_cacheOf_24 (by decide) ?_
      exact z_aret (x := (c_ca base nc pl) c0) C hrt dX4_cacheOf_28 (by decide) (by decide) (⟨by rw [c_co_at hnc hc0]; unfold c_ca; rw [if_pos hc0], rfl⟩)

set_option maxHeartbeats 4000000 in
set_option maxRecDepth 100000 in
theorem m_X4_slabAt (l : Launch) (G : z_G) (base : Nat) (sc td : Nat → Int32) (q : q_T) (nc : Nat) (cf : Nat → Nat → Int32) (pl : Nat → Nat) (S : Nat → Option s_T) (mem : Nat → Nat) (hp : List va_E) (hC : C_ok G base sc td q nc cf pl S mem hp) (x : Int32) : z_M l G base yX4_slabAt cX4_slabAt 2 (some (.object "PageSlabs$Slab")) 1 0 0 [.ref (base + 0), .int (x)] hp (fun v hp' => v = some (va_rf (c_sa base S (x))) ∧ hp' = hp) := by
  refine z_M.of (lv0 := [(0, .ref (base + 0)), (1, .int (x))]) (by decide) (Nat.le_of_ble_eq_true rfl) rfl ?_
  intro p e s m below meth c hmn hrt C
  refine z_iload_n C dX4_slabAt_0 rfl 1 rfl ?_
  refine z_callS (rest := []) C (m_X4_isPage l G base _ (x)) ml_X4_144 kw_X4_isPage rfl rfl (by simp [Value.category]) dX4_slabAt_1 (by decide) (by decide) (by decide) (by decide) ?_
  rintro _ _ ⟨rfl, rfl⟩
  refine z_st (st' := [.int ((bI (decide (0 ≤ x ∧ x < 256))))]) rfl ?_
  refine z_if_eq (tgt := 16) C dX4_slabAt_4 (by decide) (fun h4 => ?_) (fun h4 => ?_)
  · skip
    refine z_null C dX4_slabAt_16 ?_
    exact z_aret (x := none) C hrt dX4_slabAt_17 (by decide) (by decide) (⟨by rw [show c_sa base S x = none from if_neg (bI_eq h4)], rfl⟩)
  · skip
    have hxx := bI_ne h4
    obtain ⟨P, hP, rfl⟩ := pg_of hxx
    refine z_aload_n C dX4_slabAt_7 rfl 0 rfl ?_
    refine z_get C fl_X4_25 dX4_slabAt_8 hC.1 rfl ?_
    refine z_iload_n C dX4_slabAt_11 rfl 1 rfl ?_
    refine z_aaldN (t := 3) C rfl dX4_slabAt_12 hC.2.2.2.2.1 (by omega) (by decide) ?_
    refine z_goto (tgt := 17) C dX4_slabAt_13 (by decide) ?_
    exact z_aret (x := (c_sl base S) P) C hrt dX4_slabAt_17 (by decide) (by decide) (⟨by rw [c_sa_at hP], rfl⟩)

set_option maxHeartbeats 4000000 in
set_option maxRecDepth 100000 in
theorem m_X4_wrongWithPage (l : Launch) (G : z_G) (base : Nat) (sc td : Nat → Int32) (q : q_T) (nc : Nat) (cf : Nat → Nat → Int32) (pl : Nat → Nat) (S : Nat → Option s_T) (mem : Nat → Nat) (hp : List va_E) (hC : C_ok G base sc td q nc cf pl S mem hp) (hq : ∀ p, q.1 p ≤ 7) (x : Int32) : z_M l G base yX4_wrongWithPage cX4_wrongWithPage 3 (some .int) 2 0 0 [.ref (base + 0), .int (x)] hp (fun v hp' => v = some (.int (j_wp q.1 q.2.1 (x))) ∧ hp' = hp) := by
  refine z_M.of (lv0 := [(0, .ref (base + 0)), (1, .int (x))]) (by decide) (Nat.le_of_ble_eq_true rfl) rfl ?_
  intro p e s m below meth c hmn hrt C
  refine z_aload_n C dX4_wrongWithPage_0 rfl 0 rfl ?_
  refine z_get C fl_X4_19 dX4_wrongWithPage_1 hC.1 rfl ?_
  refine z_iload_n C dX4_wrongWithPage_4 rfl 1 rfl ?_
  refine z_callV (rest := []) C (C_same hC (fun xs tl => m_X0_useFrom l G base xs sc td q tl hq (x))) ml_X4_150 kw_X0_useFrom hC.2.2.2.1.1 rfl rfl rfl (by simp [Value.category]) dX4_wrongWithPage_5 (by decide) (by decide) (by decide) (by decide) ?_
  rintro _ _ ⟨rfl, rfl⟩
  refine z_st (st' := [.int (j_uf q.1 q.2.1 (x))]) rfl ?_
  refine z_istore_n (lv' := [(2, .int (j_uf q.1 q.2.1 (x))), (0, .ref (base + 0)), (1, .int (x))]) C dX4_wrongWithPage_8 rfl (by decide) rfl ?_
  refine z_iload_n C dX4_wrongWithPage_9 rfl 0 rfl ?_
  refine z_if_ne (tgt := 16) C dX4_wrongWithPage_10 (by decide) (fun h10 => ?_) (fun h10 => ?_)
  · skip
    refine z_iload_n C dX4_wrongWithPage_16 rfl 0 rfl ?_
    refine z_iconst (v := 1) C dX4_wrongWithPage_17 (by decide) ?_
    refine z_icmp_ne (tgt := 25) C dX4_wrongWithPage_18 (by decide) (fun h18 => ?_) (fun h18 => ?_)
    · skip
      refine z_bipush (v := -2) C dX4_wrongWithPage_25 (by decide) ?_
      exact z_iret C hrt rfl dX4_wrongWithPage_27 (by decide) (by decide) (⟨by unfold j_wp; rw [if_neg h10]; first | rw [if_pos h18] | rw [if_neg h18], rfl⟩)
    · skip
      refine z_iconst (v := 0) C dX4_wrongWithPage_21 (by decide) ?_
      refine z_goto (tgt := 27) C dX4_wrongWithPage_22 (by decide) ?_
      exact z_iret C hrt rfl dX4_wrongWithPage_27 (by decide) (by decide) (⟨by unfold j_wp; rw [if_neg h10]; first | rw [if_pos h18] | rw [if_neg h18], rfl⟩)
  · skip
    refine z_bipush (v := -3) C dX4_wrongWithPage_13 (by decide) ?_
    exact z_iret C hrt rfl dX4_wrongWithPage_15 (by decide) (by decide) (⟨by unfold j_wp; rw [if_pos h10], rfl⟩)

set_option maxHeartbeats 4000000 in
set_option maxRecDepth 100000 in
theorem m_X4_block (l : Launch) (G : z_G) (base : Nat) (sc td : Nat → Int32) (q : q_T) (nc : Nat) (cf : Nat → Nat → Int32) (pl : Nat → Nat) (S : Nat → Option s_T) (mem : Nat → Nat) (hp : List va_E) (hC : C_ok G base sc td q nc cf pl S mem hp) (hq : ∀ p, q.1 p ≤ 7) (x : Int32) : z_M l G base yX4_block cX4_block 2 (some .int) 2 0 0 [.ref (base + 0), .int (x)] hp (fun v hp' => v = some (.int (oI (j_fo q.1 (x)))) ∧ hp' = hp) := by
  refine z_M.of (lv0 := [(0, .ref (base + 0)), (1, .int (x))]) (by decide) (Nat.le_of_ble_eq_true rfl) rfl ?_
  intro p e s m below meth c hmn hrt C
  refine z_aload_n C dX4_block_0 rfl 0 rfl ?_
  refine z_get C fl_X4_19 dX4_block_1 hC.1 rfl ?_
  refine z_iload_n C dX4_block_4 rfl 1 rfl ?_
  refine z_callV (rest := []) C (C_same hC (fun xs tl => m_X0_firstOf l G base xs sc td q tl hq (x))) ml_X4_147 kw_X0_firstOf hC.2.2.2.1.1 rfl rfl rfl (by simp [Value.category]) dX4_block_5 (by decide) (by decide) (by decide) (by decide) ?_
  rintro _ _ ⟨rfl, rfl⟩
  refine z_st (st' := [.int (oI (j_fo q.1 (x)))]) rfl ?_
  exact z_iret C hrt rfl dX4_block_8 (by decide) (by decide) (⟨rfl, rfl⟩)

set_option maxHeartbeats 4000000 in
set_option maxRecDepth 100000 in
theorem m_X4_order (l : Launch) (G : z_G) (base : Nat) (sc td : Nat → Int32) (q : q_T) (nc : Nat) (cf : Nat → Nat → Int32) (pl : Nat → Nat) (S : Nat → Option s_T) (mem : Nat → Nat) (hp : List va_E) (hC : C_ok G base sc td q nc cf pl S mem hp) (hq : ∀ p, q.1 p ≤ 7) (x : Int32) : z_M l G base yX4_order cX4_order 2 (some .int) 2 0 0 [.ref (base + 0), .int (x)] hp (fun v hp' => v = some (.int (j_of q.1 (oI (j_fo q.1 (x))))) ∧ hp' = hp) := by
  refine z_M.of (lv0 := [(0, .ref (base + 0)), (1, .int (x))]) (by decide) (Nat.le_of_ble_eq_true rfl) rfl ?_
  intro p e s m below meth c hmn hrt C
  refine z_aload_n C dX4_order_0 rfl 0 rfl ?_
  refine z_get C fl_X4_19 dX4_order_1 hC.1 rfl ?_
  refine z_aload_n C dX4_order_4 rfl 0 rfl ?_
  refine z_get C fl_X4_19 dX4_order_5 hC.1 rfl ?_
  refine z_iload_n C dX4_order_8 rfl 1 rfl ?_
  refine z_callV (rest := [.ref (base + 3)]) C (C_same hC (fun xs tl => m_X0_firstOf l G base xs sc td q tl hq (x))) ml_X4_147 kw_X0_firstOf hC.2.2.2.1.1 rfl rfl rfl (by simp [Value.category]) dX4_order_9 (by decide) (by decide) (by decide) (by decide) ?_
  rintro _ _ ⟨rfl, rfl⟩
  refine z_st (st' := [.int (oI (j_fo q.1 (x))), .ref (base + 3)]) rfl ?_
  refine z_callV (rest := []) C (C_same hC (fun xs tl => m_X0_orderFrom l G base xs sc td q tl (oI (j_fo q.1 (x))))) ml_X4_73 kw_X0_orderFrom hC.2.2.2.1.1 rfl rfl rfl (by simp [Value.category]) dX4_order_12 (by decide) (by decide) (by decide) (by decide) ?_
  rintro _ _ ⟨rfl, rfl⟩
  refine z_st (st' := [.int (j_of q.1 (oI (j_fo q.1 (x))))]) rfl ?_
  exact z_iret C hrt rfl dX4_order_15 (by decide) (by decide) (⟨rfl, rfl⟩)

set_option maxHeartbeats 4000000 in
set_option maxRecDepth 100000 in
theorem m_X4_ofPage (l : Launch) (G : z_G) (base : Nat) (sc td : Nat → Int32) (q : q_T) (nc : Nat) (cf : Nat → Nat → Int32) (pl : Nat → Nat) (S : Nat → Option s_T) (mem : Nat → Nat) (hp : List va_E) (hC : C_ok G base sc td q nc cf pl S mem hp) (hq : ∀ p, q.1 p ≤ 7) (x : Int32) : z_M l G base yX4_ofPage cX4_ofPage 3 (some .int) 2 0 0 [.ref (base + 0), .int (x)] hp (fun v hp' => v = some (.int (c_opA q.1 q.2.1 (x))) ∧ hp' = hp) := by
  refine z_M.of (lv0 := [(0, .ref (base + 0)), (1, .int (x))]) (by decide) (Nat.le_of_ble_eq_true rfl) rfl ?_
  intro p e s m below meth c hmn hrt C
  refine z_iload_n C dX4_ofPage_0 rfl 1 rfl ?_
  refine z_callS (rest := []) C (m_X4_isPage l G base _ (x)) ml_X4_144 kw_X4_isPage rfl rfl (by simp [Value.category]) dX4_ofPage_1 (by decide) (by decide) (by decide) (by decide) ?_
  rintro _ _ ⟨rfl, rfl⟩
  refine z_st (st' := [.int ((bI (decide (0 ≤ x ∧ x < 256))))]) rfl ?_
  refine z_if_ne (tgt := 10) C dX4_ofPage_4 (by decide) (fun h4 => ?_) (fun h4 => ?_)
  · skip
    refine z_aload_n C dX4_ofPage_10 rfl 0 rfl ?_
    refine z_get C fl_X4_19 dX4_ofPage_11 hC.1 rfl ?_
    refine z_iload_n C dX4_ofPage_14 rfl 1 rfl ?_
    refine z_callV (rest := []) C (C_same hC (fun xs tl => m_X0_firstOf l G base xs sc td q tl hq (x))) ml_X4_147 kw_X0_firstOf hC.2.2.2.1.1 rfl rfl rfl (by simp [Value.category]) dX4_ofPage_15 (by decide) (by decide) (by decide) (by decide) ?_
    rintro _ _ ⟨rfl, rfl⟩
    refine z_st (st' := [.int (oI (j_fo q.1 (x)))]) rfl ?_
    rcases opt_cases (j_fo q.1 x) with hfo | ⟨f, hfo⟩
    · skip
      refine z_casti (y := -1) (by rw [hfo]; rfl) ?_
      refine z_istore_n (lv' := [(2, .int ((-1 : Int32))), (0, .ref (base + 0)), (1, .int (x))]) C dX4_ofPage_18 rfl (by decide) rfl ?_
      refine z_iload_n C dX4_ofPage_19 rfl 0 rfl ?_
      refine z_iconst (v := -1) C dX4_ofPage_20 (by decide) ?_
      refine z_icmp_ne (tgt := 28) C dX4_ofPage_21 (by decide) (fun h21 => absurd h21 (by decide)) (fun h21 => ?_)
      refine z_iconst (v := -1) C dX4_ofPage_24 (by decide) ?_
      refine z_goto (tgt := 36) C dX4_ofPage_25 (by decide) ?_
      exact z_iret C hrt rfl dX4_ofPage_36 (by decide) (by decide) (⟨by unfold c_opA; rw [if_pos (bI_ne h4), hfo], rfl⟩)
    · skip
      refine z_casti (y := nI f) (by rw [hfo]; rfl) ?_
      have hf := j_fo_lt hfo
      refine z_istore_n (lv' := [(2, .int (nI f)), (0, .ref (base + 0)), (1, .int (x))]) C dX4_ofPage_18 rfl (by decide) rfl ?_
      refine z_iload_n C dX4_ofPage_19 rfl 0 rfl ?_
      refine z_iconst (v := -1) C dX4_ofPage_20 (by decide) ?_
      refine z_icmp_ne (tgt := 28) C dX4_ofPage_21 (by decide) (fun h21 => ?_) (fun h21 => absurd h21 (nI_m1 (by omega)))
      refine z_aload_n C dX4_ofPage_28 rfl 1 rfl ?_
      refine z_get C fl_X4_19 dX4_ofPage_29 hC.1 rfl ?_
      refine z_iload_n C dX4_ofPage_32 rfl 0 rfl ?_
      refine z_callV (rest := []) C (C_same hC (fun xs tl => m_X0_useFrom l G base xs sc td q tl hq (nI f))) ml_X4_150 kw_X0_useFrom hC.2.2.2.1.1 rfl rfl rfl (by simp [Value.category]) dX4_ofPage_33 (by decide) (by decide) (by decide) (by decide) ?_
      rintro _ _ ⟨rfl, rfl⟩
      refine z_st (st' := [.int (j_uf q.1 q.2.1 (nI f))]) rfl ?_
      exact z_iret C hrt rfl dX4_ofPage_36 (by decide) (by decide) (⟨by unfold c_opA; rw [if_pos (bI_ne h4), hfo], rfl⟩)
  · skip
    refine z_bipush (v := -2) C dX4_ofPage_7 (by decide) ?_
    exact z_iret C hrt rfl dX4_ofPage_9 (by decide) (by decide) (⟨by unfold c_opA; rw [if_neg (bI_eq h4)], rfl⟩)

set_option maxHeartbeats 4000000 in
set_option maxRecDepth 100000 in
theorem m_X4_freeBlocks (l : Launch) (G : z_G) (base : Nat) (sc td : Nat → Int32) (q : q_T) (nc : Nat) (cf : Nat → Nat → Int32) (pl : Nat → Nat) (S : Nat → Option s_T) (mem : Nat → Nat) (hp : List va_E) (hC : C_ok G base sc td q nc cf pl S mem hp) (x : Int32) : z_M l G base yX4_freeBlocks cX4_freeBlocks 2 (some .int) 1 0 0 [.ref (base + 0), .int (x)] hp (fun v hp' => v = some (.int ((if 0 ≤ x ∧ x ≤ 6 then q.2.2 x.toNatClampNeg else -1))) ∧ hp' = hp) := by
  refine z_M.of (lv0 := [(0, .ref (base + 0)), (1, .int (x))]) (by decide) (Nat.le_of_ble_eq_true rfl) rfl ?_
  intro p e s m below meth c hmn hrt C
  refine z_iload_n C dX4_freeBlocks_0 rfl 1 rfl ?_
  refine z_callS (rest := []) C (m_X4_isOrder l G base _ (x)) ml_X4_62 kw_X4_isOrder rfl rfl (by simp [Value.category]) dX4_freeBlocks_1 (by decide) (by decide) (by decide) (by decide) ?_
  rintro _ _ ⟨rfl, rfl⟩
  refine z_st (st' := [.int ((bI (decide (0 ≤ x ∧ x ≤ 6))))]) rfl ?_
  refine z_if_eq (tgt := 19) C dX4_freeBlocks_4 (by decide) (fun h4 => ?_) (fun h4 => ?_)
  · skip
    refine z_iconst (v := -1) C dX4_freeBlocks_19 (by decide) ?_
    exact z_iret C hrt rfl dX4_freeBlocks_20 (by decide) (by decide) (⟨by rw [if_neg (bI_eq h4)], rfl⟩)
  · skip
    have hxx := bI_ne h4
    obtain ⟨k, hk, rfl⟩ := in_of (M := 6) (by decide) hxx
    refine z_aload_n C dX4_freeBlocks_7 rfl 0 rfl ?_
    refine z_get C fl_X4_19 dX4_freeBlocks_8 hC.1 rfl ?_
    refine z_get C fl_X4_153 dX4_freeBlocks_11 hC.2.2.2.1.1 rfl ?_
    refine z_iload_n C dX4_freeBlocks_14 rfl 1 rfl ?_
    refine z_ialdN C dX4_freeBlocks_15 hC.2.2.2.1.2.2.2.2 (by omega) (by decide) ?_
    refine z_goto (tgt := 20) C dX4_freeBlocks_16 (by decide) ?_
    exact z_iret C hrt rfl dX4_freeBlocks_20 (by decide) (by decide) (⟨by rw [if_pos hxx, nI_clamp (by omega)], rfl⟩)

set_option maxHeartbeats 4000000 in
set_option maxRecDepth 100000 in
theorem m_X4_ofCache (l : Launch) (G : z_G) (base : Nat) (sc td : Nat → Int32) (q : q_T) (nc : Nat) (cf : Nat → Nat → Int32) (pl : Nat → Nat) (S : Nat → Option s_T) (mem : Nat → Nat) (hp : List va_E) (hC : C_ok G base sc td q nc cf pl S mem hp) (hnc : nc ≤ 12) (x y : Int32) : z_M l G base yX4_ofCache cX4_ofCache 4 (some .int) 1 0 0 [.ref (base + 0), .int (x), .int (y)] hp (fun v hp' => v = some (.int ((if 0 ≤ x ∧ x < nI nc then j_fig (cf x.toNatClampNeg) (y) else -1))) ∧ hp' = hp) := by
  refine z_M.of (lv0 := [(0, .ref (base + 0)), (1, .int (x)), (2, .int (y))]) (by decide) (Nat.le_of_ble_eq_true rfl) rfl ?_
  intro p e s m below meth c hmn hrt C
  refine z_aload_n C dX4_ofCache_0 rfl 0 rfl ?_
  refine z_iload_n C dX4_ofCache_1 rfl 1 rfl ?_
  refine z_callV (rest := []) C (m_X4_cacheOf l G base sc td q nc cf pl S mem _ hC hnc (x)) ml_X4_83 kw_X4_cacheOf hC.1 rfl rfl rfl (by simp [Value.category]) dX4_ofCache_2 (by decide) (by decide) (by decide) (by decide) ?_
  rintro _ _ ⟨rfl, rfl⟩
  refine z_st (st' := [va_rf (c_co base nc pl (x))]) rfl ?_
  rcases c_co_cases (base := base) (pl := pl) hnc x with ⟨hco, hcx⟩ | ⟨c0, hc0, rfl, hco⟩
  · skip
    refine z_st (st' := [.null]) (by rw [hco]; rfl) ?_
    refine z_astore_nq (x := none) (lv' := [(3, .null), (0, .ref (base + 0)), (1, .int (x)), (2, .int (y))]) C dX4_ofCache_5 rfl (by decide) rfl ?_
    refine z_aload_nq (x := none) C dX4_ofCache_6 rfl 0 rfl ?_
    refine z_ifnonnull_n C dX4_ofCache_7 ?_
    refine z_iconst (v := -1) C dX4_ofCache_10 (by decide) ?_
    refine z_goto (tgt := 19) C dX4_ofCache_11 (by decide) ?_
    exact z_iret C hrt rfl dX4_ofCache_19 (by decide) (by decide) (⟨by rw [if_neg hcx], rfl⟩)
  · skip
    refine z_st (st' := [.ref (base + (pl c0))]) (by rw [hco]; rfl) ?_
    refine z_astore_n (lv' := [(3, .ref (base + (pl c0))), (0, .ref (base + 0)), (1, .int (nI c0)), (2, .int (y))]) C dX4_ofCache_5 rfl (by decide) rfl ?_
    refine z_aload_n C dX4_ofCache_6 rfl 0 rfl ?_
    refine z_ifnonnull_s (tgt := 14) C dX4_ofCache_7 (by decide) ?_
    refine z_aload_n C dX4_ofCache_14 rfl 0 rfl ?_
    refine z_iload_n C dX4_ofCache_15 rfl 3 rfl ?_
    refine z_callV (rest := []) C (m_X1_figure l G base _ (pl c0) (cf c0) (hC.2.2.2.2.2.2.1.1 c0 hc0).1 (y)) ml_X4_157 kw_X1_figure (hC.2.2.2.2.2.2.1.1 c0 hc0).1 rfl rfl rfl (by simp [Value.category]) dX4_ofCache_16 (by decide) (by decide) (by decide) (by decide) ?_
    rintro _ _ ⟨rfl, rfl⟩
    refine z_st (st' := [.int (j_fig (cf c0) (y))]) rfl ?_
    exact z_iret C hrt rfl dX4_ofCache_19 (by decide) (by decide) (⟨by rw [if_pos ⟨nI_pos' (by omega), nI_lt hc0 (by omega)⟩, nI_clamp (by omega)], rfl⟩)

set_option maxHeartbeats 4000000 in
set_option maxRecDepth 100000 in
theorem m_X4_liveObjects (l : Launch) (G : z_G) (base : Nat) (sc td : Nat → Int32) (q : q_T) (nc : Nat) (cf : Nat → Nat → Int32) (pl : Nat → Nat) (S : Nat → Option s_T) (mem : Nat → Nat) (hp : List va_E) (hC : C_ok G base sc td q nc cf pl S mem hp) (hnc : nc ≤ 12) : z_M l G base yX4_liveObjects cX4_liveObjects 4 (some .int) 1 0 0 [.ref (base + 0)] hp (fun v hp' => v = some (.int (c_lv cf nc 12)) ∧ hp' = hp) := by
  refine z_M.of (lv0 := [(0, .ref (base + 0))]) (by decide) (Nat.le_of_ble_eq_true rfl) rfl ?_
  intro p e s m below meth c hmn hrt C
  refine z_iconst (v := 0) C dX4_liveObjects_0 (by decide) ?_
  refine z_casti (y := c_lv cf nc 0) (rfl) ?_
  refine z_istore_n (lv' := [(1, .int (c_lv cf nc 0)), (0, .ref (base + 0))]) C dX4_liveObjects_1 rfl (by decide) rfl ?_
  refine z_iconst (v := 0) C dX4_liveObjects_2 (by decide) ?_
  refine z_casti (y := nI 0) (rfl) ?_
  refine z_istore_n (lv' := [(2, .int (nI 0)), (1, .int (c_lv cf nc 0)), (0, .ref (base + 0))]) C dX4_liveObjects_3 rfl (by decide) rfl ?_
  refine z_lv (lv' := [(2, .int (nI 0)), (1, .int (c_lv cf nc 0)), (0, .ref (base + 0))]) [0, 1, 2] rfl ?_
  have loop : ∀ (n : Nat) (z : Nat), (z ≤ 12) → (13 ≤ n + z) → z_R p l e (z_rm 1 0 0) s m ([Value.ref (base + 0)] : List Value).toArray below meth c (MQ below (z_Qc G base (fun v hp' => v = some (.int (c_lv cf nc 12)) ∧ hp' = hp)) ([Value.ref (base + 0)] : List Value).toArray s 0 0 (fun z => base ≤ z)) G base 4 0 0 4 [(2, .int (nI z)), (1, .int (c_lv cf nc z)), (0, .ref (base + 0))] [] hp := by
    intro n
    induction n with
    | zero => intro z hz hn0; exact absurd hn0 (by omega)
    | succ n ih =>
      intro z hz hn0
      refine z_iload_n C dX4_liveObjects_4 rfl 0 rfl ?_
      refine z_bipush (v := 12) C dX4_liveObjects_5 (by decide) ?_
      refine z_icmp_ge (tgt := 37) C dX4_liveObjects_7 (by decide) (fun h7 => ?_) (fun h7 => ?_)
      · skip
        have ze : z = 12 := by
          rcases Nat.lt_or_ge z 12 with q9 | q9
          · exact absurd h7 (nI_ge q9 (by decide))
          · omega
        refine z_iload_n C dX4_liveObjects_37 rfl 1 rfl ?_
        exact z_iret C hrt rfl dX4_liveObjects_38 (by decide) (by decide) (⟨by rw [ze], rfl⟩)
      · skip
        have zl : z < 12 := by
          rcases Nat.lt_or_ge z 12 with q9 | q9
          · exact q9
          · exact absurd (nI_le (a := 12) (b := z) q9 (by omega)) h7
        refine z_aload_n C dX4_liveObjects_10 rfl 2 rfl ?_
        refine z_iload_n C dX4_liveObjects_11 rfl 0 rfl ?_
        refine z_callV (rest := []) C (m_X4_cacheOf l G base sc td q nc cf pl S mem _ hC hnc (nI z)) ml_X4_83 kw_X4_cacheOf hC.1 rfl rfl rfl (by simp [Value.category]) dX4_liveObjects_12 (by decide) (by decide) (by decide) (by decide) ?_
        rintro _ _ ⟨rfl, rfl⟩
        refine z_st (st' := [va_rf (c_co base nc pl (nI z))]) rfl ?_
        rcases Nat.lt_or_ge z nc with hzc | hzc
        · skip
          refine z_st (st' := [.ref (base + (pl z))]) (by rw [c_co_at hnc hzc]; rfl) ?_
          refine z_astore_n (lv' := [(3, .ref (base + (pl z))), (2, .int (nI z)), (1, .int (c_lv cf nc z)), (0, .ref (base + 0))]) C dX4_liveObjects_15 rfl (by decide) rfl ?_
          refine z_iload_n C dX4_liveObjects_16 rfl 2 rfl ?_
          refine z_aload_n C dX4_liveObjects_17 rfl 0 rfl ?_
          refine z_ifnonnull_s (tgt := 25) C dX4_liveObjects_18 (by decide) ?_
          refine z_aload_n C dX4_liveObjects_25 rfl 0 rfl ?_
          refine z_get C fl_X4_184 dX4_liveObjects_26 (hC.2.2.2.2.2.2.1.1 z hzc).1 rfl ?_
          refine z_iadd C dX4_liveObjects_29 ?_
          refine z_casti (y := c_lv cf nc (z + 1)) (by show _ = c_lv cf nc z + (if z < nc then cf z 7 else 0); first | rw [if_pos hzc] | rw [if_neg (by omega)]) ?_
          refine z_istore_n (lv' := [(1, .int (c_lv cf nc (z + 1))), (3, .ref (base + (pl z))), (2, .int (nI z)), (0, .ref (base + 0))]) C dX4_liveObjects_30 rfl (by decide) rfl ?_
          refine z_iinc (k := 2) (v := nI (z + 1)) (lv' := [(2, .int (nI (z + 1))), (1, .int (c_lv cf nc (z + 1))), (3, .ref (base + (pl z))), (0, .ref (base + 0))]) C dX4_liveObjects_31 rfl (nI_1 z) (by decide) rfl ?_
          refine z_goto (tgt := 4) C dX4_liveObjects_34 (by decide) ?_
          refine z_lv (lv' := [(2, .int (nI (z + 1))), (1, .int (c_lv cf nc (z + 1))), (0, .ref (base + 0))]) [0, 1, 3] rfl ?_
          exact ih (z + 1) (by omega) (by omega)
        · skip
          refine z_st (st' := [.null]) (by rw [show c_co base nc pl (nI z) = none from if_neg (fun q => absurd q.2 (nI_nlt hzc (by omega)))]; rfl) ?_
          refine z_astore_nq (x := none) (lv' := [(3, .null), (2, .int (nI z)), (1, .int (c_lv cf nc z)), (0, .ref (base + 0))]) C dX4_liveObjects_15 rfl (by decide) rfl ?_
          refine z_iload_n C dX4_liveObjects_16 rfl 2 rfl ?_
          refine z_aload_nq (x := none) C dX4_liveObjects_17 rfl 0 rfl ?_
          refine z_ifnonnull_n C dX4_liveObjects_18 ?_
          refine z_iconst (v := 0) C dX4_liveObjects_21 (by decide) ?_
          refine z_goto (tgt := 29) C dX4_liveObjects_22 (by decide) ?_
          refine z_iadd C dX4_liveObjects_29 ?_
          refine z_casti (y := c_lv cf nc (z + 1)) (by show _ = c_lv cf nc z + (if z < nc then cf z 7 else 0); first | rw [if_pos hzc] | rw [if_neg (by omega)]) ?_
          refine z_istore_n (lv' := [(1, .int (c_lv cf nc (z + 1))), (3, .null), (2, .int (nI z)), (0, .ref (base + 0))]) C dX4_liveObjects_30 rfl (by decide) rfl ?_
          refine z_iinc (k := 2) (v := nI (z + 1)) (lv' := [(2, .int (nI (z + 1))), (1, .int (c_lv cf nc (z + 1))), (3, .null), (0, .ref (base + 0))]) C dX4_liveObjects_31 rfl (nI_1 z) (by decide) rfl ?_
          refine z_goto (tgt := 4) C dX4_liveObjects_34 (by decide) ?_
          refine z_lv (lv' := [(2, .int (nI (z + 1))), (1, .int (c_lv cf nc (z + 1))), (0, .ref (base + 0))]) [0, 1, 3] rfl ?_
          exact ih (z + 1) (by omega) (by omega)
  exact loop 13 0 (by omega) (by omega)

set_option maxHeartbeats 4000000 in
set_option maxRecDepth 100000 in
theorem m_X4_count (l : Launch) (G : z_G) (base : Nat) (sc td : Nat → Int32) (q : q_T) (nc : Nat) (cf : Nat → Nat → Int32) (pl : Nat → Nat) (S : Nat → Option s_T) (mem : Nat → Nat) (hp : List va_E) (hC : C_ok G base sc td q nc cf pl S mem hp) (hnc : nc ≤ 12) (x : Int32) : z_M l G base yX4_count cX4_count 2 (some .int) 2 0 0 [.ref (base + 0), .int (x)] hp (fun v hp' => v = some (.int (c_cnA sc (c_lv cf nc 12) nc (x))) ∧ hp' = hp) := by
  refine z_M.of (lv0 := [(0, .ref (base + 0)), (1, .int (x))]) (by decide) (Nat.le_of_ble_eq_true rfl) rfl ?_
  intro p e s m below meth c hmn hrt C
  refine z_iload_n C dX4_count_0 rfl 1 rfl ?_
  rcases tab9 x with hto | ⟨j, hj, rfl⟩
  · skip
    refine z_tabOut (tgt := 118) C dX4_count_1 hto (by decide) ?_
    refine z_iconst (v := -1) C dX4_count_118 (by decide) ?_
    exact z_iret C hrt rfl dX4_count_119 (by decide) (by decide) (⟨by unfold c_cnA; first | rw [if_pos hto] | rfl, rfl⟩)
  · skip
    rcases (show j = 0 ∨ j = 1 ∨ j = 2 ∨ j = 3 ∨ j = 4 ∨ j = 5 ∨ j = 6 ∨ j = 7 ∨ j = 8 by omega) with rfl | rfl | rfl | rfl | rfl | rfl | rfl | rfl | rfl
    · skip
      refine z_tabIn (off := 51) (tgt := 52) C dX4_count_1 (by decide) (by decide) (by decide) (by decide) ?_
      refine z_aload_n C dX4_count_52 rfl 0 rfl ?_
      refine z_get C fl_X4_19 dX4_count_53 hC.1 rfl ?_
      refine z_get C fl_X4_59 dX4_count_56 hC.2.2.2.1.1 rfl ?_
      exact z_iret C hrt rfl dX4_count_59 (by decide) (by decide) (⟨by unfold c_cnA; first | rw [if_pos hto] | rfl, rfl⟩)
    · skip
      refine z_tabIn (off := 59) (tgt := 60) C dX4_count_1 (by decide) (by decide) (by decide) (by decide) ?_
      refine z_aload_n C dX4_count_60 rfl 0 rfl ?_
      refine z_get C fl_X4_19 dX4_count_61 hC.1 rfl ?_
      refine z_get C fl_X4_160 dX4_count_64 hC.2.2.2.1.1 rfl ?_
      exact z_iret C hrt rfl dX4_count_67 (by decide) (by decide) (⟨by unfold c_cnA; first | rw [if_pos hto] | rfl, rfl⟩)
    · skip
      refine z_tabIn (off := 67) (tgt := 68) C dX4_count_1 (by decide) (by decide) (by decide) (by decide) ?_
      refine z_aload_n C dX4_count_68 rfl 0 rfl ?_
      refine z_get C fl_X4_19 dX4_count_69 hC.1 rfl ?_
      refine z_get C fl_X4_163 dX4_count_72 hC.2.2.2.1.1 rfl ?_
      exact z_iret C hrt rfl dX4_count_75 (by decide) (by decide) (⟨by unfold c_cnA; first | rw [if_pos hto] | rfl, rfl⟩)
    · skip
      refine z_tabIn (off := 75) (tgt := 76) C dX4_count_1 (by decide) (by decide) (by decide) (by decide) ?_
      refine z_aload_n C dX4_count_76 rfl 0 rfl ?_
      refine z_get C fl_X4_19 dX4_count_77 hC.1 rfl ?_
      refine z_get C fl_X4_166 dX4_count_80 hC.2.2.2.1.1 rfl ?_
      exact z_iret C hrt rfl dX4_count_83 (by decide) (by decide) (⟨by unfold c_cnA; first | rw [if_pos hto] | rfl, rfl⟩)
    · skip
      refine z_tabIn (off := 83) (tgt := 84) C dX4_count_1 (by decide) (by decide) (by decide) (by decide) ?_
      refine z_aload_n C dX4_count_84 rfl 0 rfl ?_
      refine z_get C fl_X4_19 dX4_count_85 hC.1 rfl ?_
      refine z_get C fl_X4_169 dX4_count_88 hC.2.2.2.1.1 rfl ?_
      exact z_iret C hrt rfl dX4_count_91 (by decide) (by decide) (⟨by unfold c_cnA; first | rw [if_pos hto] | rfl, rfl⟩)
    · skip
      refine z_tabIn (off := 91) (tgt := 92) C dX4_count_1 (by decide) (by decide) (by decide) (by decide) ?_
      refine z_aload_n C dX4_count_92 rfl 0 rfl ?_
      refine z_callV (rest := []) C (m_X4_liveObjects l G base sc td q nc cf pl S mem hp hC hnc) ml_X4_172 kw_X4_liveObjects hC.1 rfl rfl rfl (by simp [Value.category]) dX4_count_93 (by decide) (by decide) (by decide) (by decide) ?_
      rintro _ _ ⟨rfl, rfl⟩
      refine z_st (st' := [.int (c_lv cf nc 12)]) rfl ?_
      exact z_iret C hrt rfl dX4_count_96 (by decide) (by decide) (⟨by unfold c_cnA; first | rw [if_pos hto] | rfl, rfl⟩)
    · skip
      refine z_tabIn (off := 96) (tgt := 97) C dX4_count_1 (by decide) (by decide) (by decide) (by decide) ?_
      refine z_aload_n C dX4_count_97 rfl 0 rfl ?_
      refine z_get C fl_X4_44 dX4_count_98 hC.1 rfl ?_
      exact z_iret C hrt rfl dX4_count_101 (by decide) (by decide) (⟨by unfold c_cnA; first | rw [if_pos hto] | rfl, rfl⟩)
    · skip
      refine z_tabIn (off := 101) (tgt := 102) C dX4_count_1 (by decide) (by decide) (by decide) (by decide) ?_
      refine z_aload_n C dX4_count_102 rfl 0 rfl ?_
      refine z_get C fl_X4_19 dX4_count_103 hC.1 rfl ?_
      refine z_get C fl_X4_176 dX4_count_106 hC.2.2.2.1.1 rfl ?_
      exact z_iret C hrt rfl dX4_count_109 (by decide) (by decide) (⟨by unfold c_cnA; first | rw [if_pos hto] | rfl, rfl⟩)
    · skip
      refine z_tabIn (off := 109) (tgt := 110) C dX4_count_1 (by decide) (by decide) (by decide) (by decide) ?_
      refine z_aload_n C dX4_count_110 rfl 0 rfl ?_
      refine z_get C fl_X4_19 dX4_count_111 hC.1 rfl ?_
      refine z_get C fl_X4_141 dX4_count_114 hC.2.2.2.1.1 rfl ?_
      exact z_iret C hrt rfl dX4_count_117 (by decide) (by decide) (⟨by unfold c_cnA; first | rw [if_pos hto] | rfl, rfl⟩)
