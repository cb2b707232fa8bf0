set_option maxHeartbeats 4000000 in
set_option maxRecDepth 100000 in
theorem m_X4_isPage (l : Launch) (G : z_G) (base : Nat) (hp : List va_E) (x : Int32) : z_M l G base yX4_isPage cX4_isPage 1 (some .boolean) 0 0 0 [.int (x)] hp (fun v hp' => v = some (.int (bI (decide (0 ≤ x ∧ x < 256)))) ∧ hp' = hp) := by
  refine z_M.of (lv0 := [(0, .int (x))]) (by decide) (Nat.le_of_ble_eq_true rfl) rfl ?_
  intro p e s m below meth c hmn hrt C
  refine z_iload_n C dX4_isPage_0 rfl 0 rfl ?_
  refine z_if_lt (tgt := 15) C dX4_isPage_1 (by decide) (fun h1 => ?_) (fun h1 => ?_)
  · skip
    refine z_iconst (v := 0) C dX4_isPage_15 (by decide) ?_
    exact z_iret C hrt rfl dX4_isPage_16 (by decide) (by decide) (⟨by rw [← bI_f (fun q => by first | exact absurd h1 (Int32.not_lt.mpr q.1) | exact absurd q.2 (Int32.not_lt.mpr h8))], rfl⟩)
  · skip
    refine z_iload_n C dX4_isPage_4 rfl 0 rfl ?_
    refine z_sipush (v := 256) C dX4_isPage_5 (by decide) ?_
    refine z_icmp_ge (tgt := 15) C dX4_isPage_8 (by decide) (fun h8 => ?_) (fun h8 => ?_)
    · skip
      refine z_iconst (v := 0) C dX4_isPage_15 (by decide) ?_
      exact z_iret C hrt rfl dX4_isPage_16 (by decide) (by decide) (⟨by rw [← bI_f (fun q => by first | exact absurd h1 (Int32.not_lt.mpr q.1) | exact absurd q.2 (Int32.not_lt.mpr h8))], rfl⟩)
    · skip
      refine z_iconst (v := 1) C dX4_isPage_11 (by decide) ?_
      refine z_goto (tgt := 16) C dX4_isPage_12 (by decide) ?_
      exact z_iret C hrt rfl dX4_isPage_16 (by decide) (by decide) (⟨by rw [← bI_t ⟨Int32.not_lt.mp h1, Int32.not_le.mp h8⟩], rfl⟩)

set_option maxHeartbeats 4000000 in
set_option maxRecDepth 100000 in
theorem m_X0_orderFrom (l : Launch) (G : z_G) (base : Nat) (xs : Nat → va_E) (sc td : Nat → Int32) (q : q_T) (tl : List va_E) (x : Int32) : z_M l G base yX0_orderFrom cX0_orderFrom 2 (some .int) 1 0 0 [.ref (base + 3), .int (x)] (hpB G base xs sc td q tl) (fun v hp' => v = some (.int (j_of q.1 x)) ∧ hp' = hpB G base xs sc td q tl) := by
  refine z_M.of (lv0 := [(0, .ref (base + 3)), (1, .int (x))]) (by decide) (Nat.le_of_ble_eq_true rfl) rfl ?_
  intro p e s m below meth c hmn hrt C
  refine z_iload_n C dX0_orderFrom_0 rfl 1 rfl ?_
  refine z_callSN (rest := []) C (m_X4_isPage l G base _ (x)) ml_X0_43 kw_X4_isPage rfl rfl (by simp [Value.category]) dX0_orderFrom_1 (by decide) (by decide) (by decide) (by decide) ?_
  rintro _ _ ⟨rfl, rfl⟩
  refine z_st (st' := [.int ((bI (decide (0 ≤ x ∧ x < 256))))]) rfl ?_
  refine z_if_eq (tgt := 18) C dX0_orderFrom_4 (by decide) (fun h4 => ?_) (fun h4 => ?_)
  · skip
    refine z_iconst (v := -1) C dX0_orderFrom_18 (by decide) ?_
    exact z_iret C hrt rfl dX0_orderFrom_19 (by decide) (by decide) (⟨by unfold j_of; rw [if_neg (bI_eq h4)], rfl⟩)
  · skip
    obtain ⟨P, hP, rfl⟩ := pg_of (bI_ne h4)
    refine z_aload_n C dX0_orderFrom_7 rfl 0 rfl ?_
    refine z_get C fl_X0_15 dX0_orderFrom_8 rfl rfl ?_
    refine z_iload_n C dX0_orderFrom_11 rfl 1 rfl ?_
    refine z_ialdK C dX0_orderFrom_12 rfl (by omega) (by decide) ?_
    refine z_iconst (v := 1) C dX0_orderFrom_13 (by decide) ?_
    refine z_isub C dX0_orderFrom_14 ?_
    refine z_goto (tgt := 19) C dX0_orderFrom_15 (by decide) ?_
    exact z_iret C hrt rfl dX0_orderFrom_19 (by decide) (by decide) (⟨by unfold j_of; rw [if_pos (pg_in hP), cl_nI hP], rfl⟩)

set_option maxHeartbeats 4000000 in
set_option maxRecDepth 100000 in
theorem m_X0_useFrom (l : Launch) (G : z_G) (base : Nat) (xs : Nat → va_E) (sc td : Nat → Int32) (q : q_T) (tl : List va_E) (hq : ∀ p, q.1 p ≤ 7) (x : Int32) : z_M l G base yX0_useFrom cX0_useFrom 2 (some .int) 1 0 0 [.ref (base + 3), .int (x)] (hpB G base xs sc td q tl) (fun v hp' => v = some (.int (j_uf q.1 q.2.1 x)) ∧ hp' = hpB G base xs sc td q tl) := by
  refine z_M.of (lv0 := [(0, .ref (base + 3)), (1, .int (x))]) (by decide) (Nat.le_of_ble_eq_true rfl) rfl ?_
  intro p e s m below meth c hmn hrt C
  refine z_iload_n C dX0_useFrom_0 rfl 1 rfl ?_
  refine z_callSN (rest := []) C (m_X4_isPage l G base _ (x)) ml_X0_43 kw_X4_isPage rfl rfl (by simp [Value.category]) dX0_useFrom_1 (by decide) (by decide) (by decide) (by decide) ?_
  rintro _ _ ⟨rfl, rfl⟩
  refine z_st (st' := [.int ((bI (decide (0 ≤ x ∧ x < 256))))]) rfl ?_
  refine z_if_eq (tgt := 25) C dX0_useFrom_4 (by decide) (fun h4 => ?_) (fun h4 => ?_)
  · skip
    refine z_iconst (v := -1) C dX0_useFrom_25 (by decide) ?_
    exact z_iret C hrt rfl dX0_useFrom_26 (by decide) (by decide) (⟨by unfold j_uf; rw [if_neg (by first | exact fun z => bI_eq h4 z.1 | exact fun z => z.2 (by rw [cl_nI hP]; exact (nI_eq (b := 0) (Nat.lt_of_le_of_lt (hq P) (by decide)) (by decide)).mp h13))], rfl⟩)
  · skip
    obtain ⟨P, hP, rfl⟩ := pg_of (bI_ne h4)
    refine z_aload_n C dX0_useFrom_7 rfl 0 rfl ?_
    refine z_get C fl_X0_15 dX0_useFrom_8 rfl rfl ?_
    refine z_iload_n C dX0_useFrom_11 rfl 1 rfl ?_
    refine z_ialdK C dX0_useFrom_12 rfl (by omega) (by decide) ?_
    refine z_if_eq (tgt := 25) C dX0_useFrom_13 (by decide) (fun h13 => ?_) (fun h13 => ?_)
    · skip
      refine z_iconst (v := -1) C dX0_useFrom_25 (by decide) ?_
      exact z_iret C hrt rfl dX0_useFrom_26 (by decide) (by decide) (⟨by unfold j_uf; rw [if_neg (by first | exact fun z => bI_eq h4 z.1 | exact fun z => z.2 (by rw [cl_nI hP]; exact (nI_eq (b := 0) (Nat.lt_of_le_of_lt (hq P) (by decide)) (by decide)).mp h13))], rfl⟩)
    · skip
      refine z_aload_n C dX0_useFrom_16 rfl 0 rfl ?_
      refine z_get C fl_X0_19 dX0_useFrom_17 rfl rfl ?_
      refine z_iload_n C dX0_useFrom_20 rfl 1 rfl ?_
      refine z_ialdK C dX0_useFrom_21 rfl (by omega) (by decide) ?_
      refine z_goto (tgt := 26) C dX0_useFrom_22 (by decide) ?_
      exact z_iret C hrt rfl dX0_useFrom_26 (by decide) (by decide) (⟨by unfold j_uf; rw [if_pos ⟨pg_in hP, fun z => h13 (by rw [cl_nI hP] at z; rw [z]; rfl)⟩, cl_nI hP], rfl⟩)

set_option maxHeartbeats 4000000 in
set_option maxRecDepth 100000 in
theorem m_X0_isFree (l : Launch) (G : z_G) (base : Nat) (xs : Nat → va_E) (sc td : Nat → Int32) (q : q_T) (tl : List va_E) (hq : ∀ p, q.1 p ≤ 7) (hu : ∀ p, q.2.1 p ≤ 13) (P k : Nat) (hP : P < 256) (hk : k < 7) : z_M l G base yX0_isFree cX0_isFree 3 (some .boolean) 0 0 0 [.ref (base + 3), .int (nI P), .int (nI k)] (hpB G base xs sc td q tl) (fun v hp' => v = some (.int (bI (decide (q.1 P = k + 1 ∧ q.2.1 P = 0)))) ∧ hp' = hpB G base xs sc td q tl) := by
  refine z_M.of (lv0 := [(0, .ref (base + 3)), (1, .int (nI P)), (2, .int (nI k))]) (by decide) (Nat.le_of_ble_eq_true rfl) rfl ?_
  intro p e s m below meth c hmn hrt C
  refine z_aload_n C dX0_isFree_0 rfl 0 rfl ?_
  refine z_get C fl_X0_15 dX0_isFree_1 rfl rfl ?_
  refine z_iload_n C dX0_isFree_4 rfl 1 rfl ?_
  refine z_ialdK C dX0_isFree_5 rfl (by omega) (by decide) ?_
  refine z_iload_n C dX0_isFree_6 rfl 2 rfl ?_
  refine z_iconst (v := 1) C dX0_isFree_7 (by decide) ?_
  refine z_iadd C dX0_isFree_8 ?_
  refine z_casti (y := nI (k + 1)) (nI_1 k) ?_
  refine z_icmp_ne (tgt := 25) C dX0_isFree_9 (by decide) (fun h9 => ?_) (fun h9 => ?_)
  · skip
    refine z_iconst (v := 0) C dX0_isFree_25 (by decide) ?_
    exact z_iret C hrt rfl dX0_isFree_26 (by decide) (by decide) (⟨by rw [← bI_f (by first | exact fun z => h9 (by rw [z.1]) | exact fun z => h18 (by rw [z.2]; rfl))], rfl⟩)
  · skip
    refine z_aload_n C dX0_isFree_12 rfl 0 rfl ?_
    refine z_get C fl_X0_19 dX0_isFree_13 rfl rfl ?_
    refine z_iload_n C dX0_isFree_16 rfl 1 rfl ?_
    refine z_ialdK C dX0_isFree_17 rfl (by omega) (by decide) ?_
    refine z_if_ne (tgt := 25) C dX0_isFree_18 (by decide) (fun h18 => ?_) (fun h18 => ?_)
    · skip
      refine z_iconst (v := 0) C dX0_isFree_25 (by decide) ?_
      exact z_iret C hrt rfl dX0_isFree_26 (by decide) (by decide) (⟨by rw [← bI_f (by first | exact fun z => h9 (by rw [z.1]) | exact fun z => h18 (by rw [z.2]; rfl))], rfl⟩)
    · skip
      refine z_iconst (v := 1) C dX0_isFree_21 (by decide) ?_
      refine z_goto (tgt := 26) C dX0_isFree_22 (by decide) ?_
      exact z_iret C hrt rfl dX0_isFree_26 (by decide) (by decide) (⟨by rw [← bI_t ⟨(nI_eq (Nat.lt_of_le_of_lt (hq P) (by decide)) (by omega)).mp h9, (nI_eq (b := 0) (Nat.lt_of_le_of_lt (hu P) (by decide)) (by decide)).mp h18⟩], rfl⟩)

set_option maxHeartbeats 4000000 in
set_option maxRecDepth 100000 in
theorem m_X0_layFree (l : Launch) (G : z_G) (base : Nat) (xs : Nat → va_E) (sc td : Nat → Int32) (q : q_T) (tl : List va_E) (P k : Nat) (hP : P < 256) (hk : k < 7) : z_M l G base yX0_layFree cX0_layFree 3 none 0 0 0 [.ref (base + 3), .int (nI P), .int (nI k)] (hpB G base xs sc td q tl) (fun v hp' => v = none ∧ hp' = hpB G base xs sc td (q_lay q P k) tl) := by
  refine z_M.of (lv0 := [(0, .ref (base + 3)), (1, .int (nI P)), (2, .int (nI k))]) (by decide) (Nat.le_of_ble_eq_true rfl) rfl ?_
  intro p e s m below meth c hmn hrt C
  refine z_aload_n C dX0_layFree_0 rfl 0 rfl ?_
  refine z_get C fl_X0_15 dX0_layFree_1 rfl rfl ?_
  refine z_iload_n C dX0_layFree_4 rfl 1 rfl ?_
  refine z_iload_n C dX0_layFree_5 rfl 2 rfl ?_
  refine z_iconst (v := 1) C dX0_layFree_6 (by decide) ?_
  refine z_iadd C dX0_layFree_7 ?_
  refine z_casti (y := nI (k + 1)) (nI_1 k) ?_
  refine z_iastK C dX0_layFree_8 rfl (by omega) (by decide) ?_
  refine z_aload_n C dX0_layFree_9 rfl 0 rfl ?_
  refine z_get C fl_X0_19 dX0_layFree_10 rfl rfl ?_
  refine z_iload_n C dX0_layFree_13 rfl 1 rfl ?_
  refine z_iconst (v := 0) C dX0_layFree_14 (by decide) ?_
  refine z_casti (y := nI 0) (rfl) ?_
  refine z_iastK C dX0_layFree_15 rfl (by omega) (by decide) ?_
  refine z_aload_n C dX0_layFree_16 rfl 0 rfl ?_
  refine z_get C fl_X0_22 dX0_layFree_17 rfl rfl ?_
  refine z_iload_n C dX0_layFree_20 rfl 2 rfl ?_
  refine z_dup2 C dX0_layFree_21 rfl rfl ?_
  refine z_ialdN C dX0_layFree_22 rfl (by omega) (by decide) ?_
  refine z_iconst (v := 1) C dX0_layFree_23 (by decide) ?_
  refine z_iadd C dX0_layFree_24 ?_
  refine z_iastN C dX0_layFree_25 rfl (by omega) (by decide) ?_
  exact z_vret C hrt dX0_layFree_26 (by decide) (by decide) (⟨rfl, rfl⟩)

set_option maxHeartbeats 4000000 in
set_option maxRecDepth 100000 in
theorem m_X0_buddyOf (l : Launch) (G : z_G) (base : Nat) (hp : List va_E) (f k : Nat) (hk : k < 7) : z_M l G base yX0_buddyOf cX0_buddyOf 2 (some .int) 0 0 0 [.int (nI f), .int (nI k)] hp (fun v hp' => v = some (.int (nI (f ^^^ 2 ^ k))) ∧ hp' = hp) := by
  refine z_M.of (lv0 := [(0, .int (nI f)), (1, .int (nI k))]) (by decide) (Nat.le_of_ble_eq_true rfl) rfl ?_
  intro p e s m below meth c hmn hrt C
  refine z_iload_n C dX0_buddyOf_0 rfl 0 rfl ?_
  refine z_iconst (v := 1) C dX0_buddyOf_1 (by decide) ?_
  refine z_iload_n C dX0_buddyOf_2 rfl 1 rfl ?_
  refine z_ishl C dX0_buddyOf_3 ?_
  refine z_casti (y := nI (2 ^ k)) (nI_1lt k (by omega)) ?_
  refine z_ixor C dX0_buddyOf_4 ?_
  refine z_casti (y := nI (f ^^^ 2 ^ k)) (nI_xor _ _) ?_
  exact z_iret C hrt rfl dX0_buddyOf_5 (by decide) (by decide) (⟨rfl, rfl⟩)

set_option maxHeartbeats 4000000 in
set_option maxRecDepth 100000 in
theorem m_X0_firstOf (l : Launch) (G : z_G) (base : Nat) (xs : Nat → va_E) (sc td : Nat → Int32) (q : q_T) (tl : List va_E) (hq : ∀ p, q.1 p ≤ 7) (x : Int32) : z_M l G base yX0_firstOf cX0_firstOf 4 (some .int) 1 0 0 [.ref (base + 3), .int (x)] (hpB G base xs sc td q tl) (fun v hp' => v = some (.int (oI (j_fo q.1 (x)))) ∧ hp' = hpB G base xs sc td q tl) := by
  refine z_M.of (lv0 := [(0, .ref (base + 3)), (1, .int (x))]) (by decide) (Nat.le_of_ble_eq_true rfl) rfl ?_
  intro p e s m below meth c hmn hrt C
  refine z_iload_n C dX0_firstOf_0 rfl 1 rfl ?_
  refine z_callSN (rest := []) C (m_X4_isPage l G base _ (x)) ml_X0_43 kw_X4_isPage rfl rfl (by simp [Value.category]) dX0_firstOf_1 (by decide) (by decide) (by decide) (by decide) ?_
  rintro _ _ ⟨rfl, rfl⟩
  refine z_st (st' := [.int ((bI (decide (0 ≤ x ∧ x < 256))))]) rfl ?_
  refine z_if_ne (tgt := 9) C dX0_firstOf_4 (by decide) (fun h4 => ?_) (fun h4 => ?_)
  · skip
    obtain ⟨P, hP, rfl⟩ := pg_of (bI_ne h4)
    refine z_iconst (v := 0) C dX0_firstOf_9 (by decide) ?_
    refine z_casti (y := nI 0) (rfl) ?_
    refine z_istore_n (lv' := [(2, .int (nI 0)), (0, .ref (base + 3)), (1, .int (nI P))]) C dX0_firstOf_10 rfl (by decide) rfl ?_
    refine z_lv (lv' := [(2, .int (nI 0)), (0, .ref (base + 3)), (1, .int (nI P))]) [0, 1, 2] rfl ?_
    have loop : ∀ (n : Nat) (k : Nat), (k ≤ 7) → (8 ≤ n + k) → (j_fo q.1 (nI P) = q_fst q.1 P (7 - k) k) → z_R p l e (z_rm 1 0 0) s m ([Value.ref (base + 3), .int (nI P)] : List Value).toArray below meth c (MQ below (z_Qc G base (fun v hp' => v = some (.int (oI (j_fo q.1 (nI P)))) ∧ hp' = hpB G base xs sc td q tl)) ([Value.ref (base + 3), .int (nI P)] : List Value).toArray s 0 0 (fun z => base ≤ z)) G base 4 0 0 11 [(2, .int (nI k)), (0, .ref (base + 3)), (1, .int (nI P))] [] (hpB G base xs sc td q tl) := by
      intro n
      induction n with
      | zero => intro k hk hn0 hv; exact absurd hn0 (by omega)
      | succ n ih =>
        intro k hk hn0 hv
        have hk2 : P / 2 ^ k * 2 ^ k ≤ P := Nat.div_mul_le_self _ _
        refine z_iload_n C dX0_firstOf_11 rfl 0 rfl ?_
        refine z_bipush (v := 6) C dX0_firstOf_12 (by decide) ?_
        refine z_icmp_gt (tgt := 44) C dX0_firstOf_14 (by decide) (fun h14 => ?_) (fun h14 => ?_)
        · skip
          refine z_iconst (v := -1) C dX0_firstOf_44 (by decide) ?_
          exact z_iret C hrt rfl dX0_firstOf_45 (by decide) (by decide) (⟨by rw [hv, show k = 7 by rcases Nat.lt_or_ge k 7 with z | z; exact absurd h14 (nI_nlt (a := 6) (b := k) (by omega) (by decide)); omega]; rfl, rfl⟩)
        · skip
          have hk7 : k < 7 := by
            rcases Nat.lt_or_ge k 7 with z | z
            · exact z
            · exact absurd (nI_lt (a := 6) (b := k) (by omega) (by omega)) h14
          refine z_iload_n C dX0_firstOf_17 rfl 2 rfl ?_
          refine z_iconst (v := 1) C dX0_firstOf_18 (by decide) ?_
          refine z_iload_n C dX0_firstOf_19 rfl 0 rfl ?_
          refine z_ishl C dX0_firstOf_20 ?_
          refine z_ineg C dX0_firstOf_21 ?_
          refine z_iand C dX0_firstOf_22 ?_
          refine z_casti (y := nI (P / 2 ^ k * 2 ^ k)) (nI_mask k (by omega) P hP) ?_
          refine z_istore_n (lv' := [(3, .int (nI (P / 2 ^ k * 2 ^ k))), (2, .int (nI k)), (0, .ref (base + 3)), (1, .int (nI P))]) C dX0_firstOf_23 rfl (by decide) rfl ?_
          refine z_aload_n C dX0_firstOf_24 rfl 2 rfl ?_
          refine z_get C fl_X0_15 dX0_firstOf_25 rfl rfl ?_
          refine z_iload_n C dX0_firstOf_28 rfl 0 rfl ?_
          refine z_ialdK C dX0_firstOf_29 rfl (by omega) (by decide) ?_
          refine z_iload_n C dX0_firstOf_30 rfl 1 rfl ?_
          refine z_iconst (v := 1) C dX0_firstOf_31 (by decide) ?_
          refine z_iadd C dX0_firstOf_32 ?_
          refine z_casti (y := nI (k + 1)) (nI_1 k) ?_
          refine z_icmp_ne (tgt := 38) C dX0_firstOf_33 (by decide) (fun h33 => ?_) (fun h33 => ?_)
          · skip
            refine z_iinc (k := 1) (v := nI (k + 1)) (lv' := [(2, .int (nI (k + 1))), (3, .int (nI (P / 2 ^ k * 2 ^ k))), (0, .ref (base + 3)), (1, .int (nI P))]) C dX0_firstOf_38 rfl (nI_1 k) (by decide) rfl ?_
            refine z_goto (tgt := 11) C dX0_firstOf_41 (by decide) ?_
            refine z_lv (lv' := [(2, .int (nI (k + 1))), (0, .ref (base + 3)), (1, .int (nI P))]) [0, 2, 3] rfl ?_
            exact ih (k + 1) (by omega) (by omega) (by rw [hv]; exact q_fst_miss (by omega) (fun z => h33 (by rw [z])))
          · skip
            refine z_iload_n C dX0_firstOf_36 rfl 0 rfl ?_
            exact z_iret C hrt rfl dX0_firstOf_37 (by decide) (by decide) (⟨by rw [hv, q_fst_hit hk7 ((nI_eq (Nat.lt_of_le_of_lt (hq _) (by decide)) (by omega)).mp h33)]; rfl, rfl⟩)
    exact loop 8 0 (by omega) (by omega) (by unfold j_fo; rw [if_pos (pg_in hP), cl_nI hP])
  · skip
    refine z_iconst (v := -1) C dX0_firstOf_7 (by decide) ?_
    exact z_iret C hrt rfl dX0_firstOf_8 (by decide) (by decide) (⟨by unfold j_fo; rw [if_neg (bI_eq h4)]; rfl, rfl⟩)

set_option maxHeartbeats 4000000 in
set_option maxRecDepth 100000 in
theorem m_X0_leastFree (l : Launch) (G : z_G) (base : Nat) (xs : Nat → va_E) (sc td : Nat → Int32) (q : q_T) (tl : List va_E) (hq : ∀ p, q.1 p ≤ 7) (hu : ∀ p, q.2.1 p ≤ 13) (k : Nat) (hk : k ≤ 6) : z_M l G base yX0_leastFree cX0_leastFree 4 (some .int) 1 0 0 [.ref (base + 3), .int (nI k)] (hpB G base xs sc td q tl) (fun v hp' => v = some (.int (oI (q_lp q.1 q.2.1 (q_lo q.2.2 (6 - k) k) 256 0))) ∧ hp' = hpB G base xs sc td q tl) := by
  refine z_M.of (lv0 := [(0, .ref (base + 3)), (1, .int (nI k))]) (by decide) (Nat.le_of_ble_eq_true rfl) rfl ?_
  intro p e s m below meth c hmn hrt C
  refine z_iload_n C dX0_leastFree_0 rfl 1 rfl ?_
  refine z_istore_n (lv' := [(2, .int (nI k)), (0, .ref (base + 3)), (1, .int (nI k))]) C dX0_leastFree_1 rfl (by decide) rfl ?_
  refine z_lv (lv' := [(2, .int (nI k)), (0, .ref (base + 3)), (1, .int (nI k))]) [0, 1, 2] rfl ?_
  have loop : ∀ (n : Nat) (o : Nat), (o ≤ 6) → (7 ≤ n + o) → (q_lo q.2.2 (6 - o) o = q_lo q.2.2 (6 - k) k) → z_R p l e (z_rm 1 0 0) s m ([Value.ref (base + 3), .int (nI k)] : List Value).toArray below meth c (MQ below (z_Qc G base (fun v hp' => v = some (.int (oI (q_lp q.1 q.2.1 (q_lo q.2.2 (6 - k) k) 256 0))) ∧ hp' = hpB G base xs sc td q tl)) ([Value.ref (base + 3), .int (nI k)] : List Value).toArray s 0 0 (fun z => base ≤ z)) G base 4 0 0 2 [(2, .int (nI o)), (0, .ref (base + 3)), (1, .int (nI k))] [] (hpB G base xs sc td q tl) := by
    intro n
    induction n with
    | zero => intro o ho hn0 hv; exact absurd hn0 (by omega)
    | succ n ih =>
      intro o ho hn0 hv
      refine z_iload_n C dX0_leastFree_2 rfl 0 rfl ?_
      refine z_bipush (v := 6) C dX0_leastFree_3 (by decide) ?_
      refine z_icmp_ge (tgt := 23) C dX0_leastFree_5 (by decide) (fun h5 => ?_) (fun h5 => ?_)
      · skip
        have hoe : q_lo q.2.2 (6 - o) o = o := q_lo_hit ho (by first | exact fun _ => h14 | exact fun z => absurd h5 (nI_ge (by omega) (by decide)))
        refine z_iconst (v := 0) C dX0_leastFree_23 (by decide) ?_
        refine z_casti (y := nI 0) (rfl) ?_
        refine z_istore_n (lv' := [(3, .int (nI 0)), (2, .int (nI o)), (0, .ref (base + 3)), (1, .int (nI k))]) C dX0_leastFree_24 rfl (by decide) rfl ?_
        refine z_lv (lv' := [(3, .int (nI 0)), (0, .ref (base + 3)), (2, .int (nI o))]) [0, 2, 1] rfl ?_
        have loop2 : ∀ (n : Nat) (r : Nat), (r ≤ 256) → (257 ≤ n + r) → (q_lp q.1 q.2.1 o (256 - r) r = q_lp q.1 q.2.1 (q_lo q.2.2 (6 - k) k) 256 0) → z_R p l e (z_rm 1 0 0) s m ([Value.ref (base + 3), .int (nI k)] : List Value).toArray below meth c (MQ below (z_Qc G base (fun v hp' => v = some (.int (oI (q_lp q.1 q.2.1 (q_lo q.2.2 (6 - k) k) 256 0))) ∧ hp' = hpB G base xs sc td q tl)) ([Value.ref (base + 3), .int (nI k)] : List Value).toArray s 0 0 (fun z => base ≤ z)) G base 4 0 0 25 [(3, .int (nI r)), (0, .ref (base + 3)), (2, .int (nI o))] [] (hpB G base xs sc td q tl) := by
          intro n
          induction n with
          | zero => intro r hrl hn0 hr; exact absurd hn0 (by omega)
          | succ n ih =>
            intro r hrl hn0 hr
            have ihp := ih
            refine z_iload_n C dX0_leastFree_25 rfl 0 rfl ?_
            refine z_sipush (v := 256) C dX0_leastFree_26 (by decide) ?_
            refine z_icmp_ge (tgt := 49) C dX0_leastFree_29 (by decide) (fun h29 => ?_) (fun h29 => ?_)
            · skip
              refine z_iconst (v := -1) C dX0_leastFree_49 (by decide) ?_
              exact z_iret C hrt rfl dX0_leastFree_50 (by decide) (by decide) (⟨by rw [← hr, show r = 256 by rcases Nat.lt_or_ge r 256 with z | z; exact absurd h29 (nI_ge z (by decide)); omega]; rfl, rfl⟩)
            · skip
              have hr2 : r < 256 := by
                rcases Nat.lt_or_ge r 256 with z | z
                · exact z
                · exact absurd (nI_le (a := 256) (b := r) z (by omega)) h29
              refine z_aload_n C dX0_leastFree_32 rfl 1 rfl ?_
              refine z_iload_n C dX0_leastFree_33 rfl 0 rfl ?_
              refine z_iload_n C dX0_leastFree_34 rfl 2 rfl ?_
              refine z_callV (rest := []) C (m_X0_isFree l G base xs sc td q tl hq hu r o (by omega) (by omega)) ml_X0_75 kw_X0_isFree rfl rfl rfl rfl (by simp [Value.category]) dX0_leastFree_35 (by decide) (by decide) (by decide) (by decide) ?_
              rintro _ _ ⟨rfl, rfl⟩
              refine z_st (st' := [.int ((bI (decide (q.1 r = o + 1 ∧ q.2.1 r = 0))))]) rfl ?_
              refine z_if_eq (tgt := 43) C dX0_leastFree_38 (by decide) (fun h38 => ?_) (fun h38 => ?_)
              · skip
                refine z_iinc (k := 0) (v := nI (r + 1)) (lv' := [(3, .int (nI (r + 1))), (0, .ref (base + 3)), (2, .int (nI o))]) C dX0_leastFree_43 rfl (nI_1 r) (by decide) rfl ?_
                refine z_goto (tgt := 25) C dX0_leastFree_46 (by decide) ?_
                refine z_lv (lv' := [(3, .int (nI (r + 1))), (0, .ref (base + 3)), (2, .int (nI o))]) [0, 1, 2] rfl ?_
                exact ihp (r + 1) (by omega) (by omega) (by rw [← q_lp_miss (by omega) (bI_eq h38)]; exact hr)
              · skip
                refine z_iload_n C dX0_leastFree_41 rfl 0 rfl ?_
                exact z_iret C hrt rfl dX0_leastFree_42 (by decide) (by decide) (⟨by rw [← hr, q_lp_hit hr2 (bI_ne h38)]; rfl, rfl⟩)
        exact loop2 257 0 (by omega) (by omega) (by rw [← hv, hoe])
      · skip
        have ho6 : o < 6 := by
          rcases Nat.lt_or_ge o 6 with z | z
          · exact z
          · exact absurd (nI_le (a := 6) (b := o) z (by omega)) h5
        refine z_aload_n C dX0_leastFree_8 rfl 1 rfl ?_
        refine z_get C fl_X0_22 dX0_leastFree_9 rfl rfl ?_
        refine z_iload_n C dX0_leastFree_12 rfl 0 rfl ?_
        refine z_ialdN C dX0_leastFree_13 rfl (by omega) (by decide) ?_
        refine z_if_ne (tgt := 23) C dX0_leastFree_14 (by decide) (fun h14 => ?_) (fun h14 => ?_)
        · skip
          have hoe : q_lo q.2.2 (6 - o) o = o := q_lo_hit ho (by first | exact fun _ => h14 | exact fun z => absurd h5 (nI_ge (by omega) (by decide)))
          refine z_iconst (v := 0) C dX0_leastFree_23 (by decide) ?_
          refine z_casti (y := nI 0) (rfl) ?_
          refine z_istore_n (lv' := [(3, .int (nI 0)), (2, .int (nI o)), (0, .ref (base + 3)), (1, .int (nI k))]) C dX0_leastFree_24 rfl (by decide) rfl ?_
          refine z_lv (lv' := [(3, .int (nI 0)), (0, .ref (base + 3)), (2, .int (nI o))]) [0, 2, 1] rfl ?_
          have loop2 : ∀ (n : Nat) (r : Nat), (r ≤ 256) → (257 ≤ n + r) → (q_lp q.1 q.2.1 o (256 - r) r = q_lp q.1 q.2.1 (q_lo q.2.2 (6 - k) k) 256 0) → z_R p l e (z_rm 1 0 0) s m ([Value.ref (base + 3), .int (nI k)] : List Value).toArray below meth c (MQ below (z_Qc G base (fun v hp' => v = some (.int (oI (q_lp q.1 q.2.1 (q_lo q.2.2 (6 - k) k) 256 0))) ∧ hp' = hpB G base xs sc td q tl)) ([Value.ref (base + 3), .int (nI k)] : List Value).toArray s 0 0 (fun z => base ≤ z)) G base 4 0 0 25 [(3, .int (nI r)), (0, .ref (base + 3)), (2, .int (nI o))] [] (hpB G base xs sc td q tl) := by
            intro n
            induction n with
            | zero => intro r hrl hn0 hr; exact absurd hn0 (by omega)
            | succ n ih =>
              intro r hrl hn0 hr
              have ihp := ih
              refine z_iload_n C dX0_leastFree_25 rfl 0 rfl ?_
              refine z_sipush (v := 256) C dX0_leastFree_26 (by decide) ?_
              refine z_icmp_ge (tgt := 49) C dX0_leastFree_29 (by decide) (fun h29 => ?_) (fun h29 => ?_)
              · skip
                refine z_iconst (v := -1) C dX0_leastFree_49 (by decide) ?_
                exact z_iret C hrt rfl dX0_leastFree_50 (by decide) (by decide) (⟨by rw [← hr, show r = 256 by rcases Nat.lt_or_ge r 256 with z | z; exact absurd h29 (nI_ge z (by decide)); omega]; rfl, rfl⟩)
              · skip
                have hr2 : r < 256 := by
                  rcases Nat.lt_or_ge r 256 with z | z
                  · exact z
                  · exact absurd (nI_le (a := 256) (b := r) z (by omega)) h29
                refine z_aload_n C dX0_leastFree_32 rfl 1 rfl ?_
                refine z_iload_n C dX0_leastFree_33 rfl 0 rfl ?_
                refine z_iload_n C dX0_leastFree_34 rfl 2 rfl ?_
                refine z_callV (rest := []) C (m_X0_isFree l G base xs sc td q tl hq hu r o (by omega) (by omega)) ml_X0_75 kw_X0_isFree rfl rfl rfl rfl (by simp [Value.category]) dX0_leastFree_35 (by decide) (by decide) (by decide) (by decide) ?_
                rintro _ _ ⟨rfl, rfl⟩
                refine z_st (st' := [.int ((bI (decide (q.1 r = o + 1 ∧ q.2.1 r = 0))))]) rfl ?_
                refine z_if_eq (tgt := 43) C dX0_leastFree_38 (by decide) (fun h38 => ?_) (fun h38 => ?_)
                · skip
                  refine z_iinc (k := 0) (v := nI (r + 1)) (lv' := [(3, .int (nI (r + 1))), (0, .ref (base + 3)), (2, .int (nI o))]) C dX0_leastFree_43 rfl (nI_1 r) (by decide) rfl ?_
                  refine z_goto (tgt := 25) C dX0_leastFree_46 (by decide) ?_
                  refine z_lv (lv' := [(3, .int (nI (r + 1))), (0, .ref (base + 3)), (2, .int (nI o))]) [0, 1, 2] rfl ?_
                  exact ihp (r + 1) (by omega) (by omega) (by rw [← q_lp_miss (by omega) (bI_eq h38)]; exact hr)
                · skip
                  refine z_iload_n C dX0_leastFree_41 rfl 0 rfl ?_
                  exact z_iret C hrt rfl dX0_leastFree_42 (by decide) (by decide) (⟨by rw [← hr, q_lp_hit hr2 (bI_ne h38)]; rfl, rfl⟩)
          exact loop2 257 0 (by omega) (by omega) (by rw [← hv, hoe])
        · skip
          refine z_iinc (k := 0) (v := nI (o + 1)) (lv' := [(2, .int (nI (o + 1))), (0, .ref (base + 3)), (1, .int (nI k))]) C dX0_leastFree_17 rfl (nI_1 o) (by decide) rfl ?_
          refine z_goto (tgt := 2) C dX0_leastFree_20 (by decide) ?_
          refine z_lv (lv' := [(2, .int (nI (o + 1))), (0, .ref (base + 3)), (1, .int (nI k))]) [0, 1, 2] rfl ?_
          exact ih (o + 1) (by omega) (by omega) (by rw [← q_lo_miss ho6 h14]; exact hv)
  exact loop 7 k (by omega) (by omega) rfl

set_option maxHeartbeats 4000000 in
set_option maxRecDepth 100000 in
theorem m_X0_halve (l : Launch) (G : z_G) (base : Nat) (xs : Nat → va_E) (sc td : Nat → Int32) (q : q_T) (tl : List va_E) (P k : Nat) (hP : P < 256) (hk : k + 1 ≤ q.1 P) (hq7 : q.1 P ≤ 7) (hr : P + 2 ^ (q.1 P - 1) ≤ 256) : z_M l G base yX0_halve cX0_halve 5 none 1 0 0 [.ref (base + 3), .int (nI P), .int (nI k)] (hpB G base xs sc td q tl) (fun v hp' => v = none ∧ hp' = hpB G base xs sc td (q_halve q P k) tl) := by
  refine z_M.of (lv0 := [(0, .ref (base + 3)), (1, .int (nI P)), (2, .int (nI k))]) (by decide) (Nat.le_of_ble_eq_true rfl) rfl ?_
  intro p e s m below meth c hmn hrt C
  refine z_aload_n C dX0_halve_0 rfl 0 rfl ?_
  refine z_get C fl_X0_15 dX0_halve_1 rfl rfl ?_
  refine z_iload_n C dX0_halve_4 rfl 1 rfl ?_
  refine z_ialdK C dX0_halve_5 rfl (by omega) (by decide) ?_
  refine z_iconst (v := 1) C dX0_halve_6 (by decide) ?_
  refine z_isub C dX0_halve_7 ?_
  refine z_casti (y := nI (q.1 P - 1)) (pk_sub (b := 1) (by omega)) ?_
  refine z_istore_n (lv' := [(3, .int (nI (q.1 P - 1))), (0, .ref (base + 3)), (1, .int (nI P)), (2, .int (nI k))]) C dX0_halve_8 rfl (by decide) rfl ?_
  refine z_aload_n C dX0_halve_9 rfl 1 rfl ?_
  refine z_get C fl_X0_22 dX0_halve_10 rfl rfl ?_
  refine z_iload_n C dX0_halve_13 rfl 0 rfl ?_
  refine z_dup2 C dX0_halve_14 rfl rfl ?_
  refine z_ialdN C dX0_halve_15 rfl (by omega) (by decide) ?_
  refine z_iconst (v := 1) C dX0_halve_16 (by decide) ?_
  refine z_isub C dX0_halve_17 ?_
  refine z_iastN C dX0_halve_18 rfl (by omega) (by decide) ?_
  refine z_iload_n C dX0_halve_19 rfl 0 rfl ?_
  refine z_iconst (v := 1) C dX0_halve_20 (by decide) ?_
  refine z_isub C dX0_halve_21 ?_
  refine z_casti (y := (nI (k + (q.1 P - 1 - k)) - 1)) (by rw [show k + (q.1 P - 1 - k) = q.1 P - 1 by omega]) ?_
  refine z_istore (lv' := [(4, .int ((nI (k + (q.1 P - 1 - k)) - 1))), (3, .int (nI (q.1 P - 1))), (0, .ref (base + 3)), (1, .int (nI P)), (2, .int (nI k))]) C dX0_halve_22 (by decide) rfl ?_
  refine z_lv (lv' := [(4, .int ((nI (k + (q.1 P - 1 - k)) - 1))), (0, .ref (base + 3)), (1, .int (nI P)), (2, .int (nI k))]) [0, 2, 3, 4] rfl ?_
  have loop : ∀ (n : Nat) (r : Nat) (q1 : q_T), (k + r ≤ 6) → (r + 1 ≤ n) → (P + 2 ^ (k + r) ≤ 256) → (q_hv P k r q1 = q_hv P k (q.1 P - 1 - k) (q.1, q.2.1, upd q.2.2 (q.1 P - 1) (q.2.2 (q.1 P - 1) - 1))) → z_R p l e (z_rm 1 0 0) s m ([Value.ref (base + 3), .int (nI P), .int (nI k)] : List Value).toArray below meth c (MQ below (z_Qc G base (fun v hp' => v = none ∧ hp' = hpB G base xs sc td (q_halve q P k) tl)) ([Value.ref (base + 3), .int (nI P), .int (nI k)] : List Value).toArray s 0 0 (fun z => base ≤ z)) G base 5 0 0 24 [(4, .int ((nI (k + r) - 1))), (0, .ref (base + 3)), (1, .int (nI P)), (2, .int (nI k))] [] (hpB G base xs sc td q1 tl) := by
    intro n
    induction n with
    | zero => intro r q1 hr7 hn0 hpw hv; exact absurd hn0 (by omega)
    | succ n ih =>
      intro r q1 hr7 hn0 hpw hv
      refine z_iload C dX0_halve_24 0 rfl ?_
      refine z_iload_n C dX0_halve_26 rfl 3 rfl ?_
      refine z_icmp_lt (tgt := 48) C dX0_halve_27 (by decide) (fun h27 => ?_) (fun h27 => ?_)
      · skip
        have hr0 : r = 0 := (hv_cond k (by omega) r (by omega)).mp h27
        subst hr0
        refine z_aload_n C dX0_halve_48 rfl 1 rfl ?_
        refine z_get C fl_X0_15 dX0_halve_49 rfl rfl ?_
        refine z_iload_n C dX0_halve_52 rfl 2 rfl ?_
        refine z_iload_n C dX0_halve_53 rfl 3 rfl ?_
        refine z_iconst (v := 1) C dX0_halve_54 (by decide) ?_
        refine z_iadd C dX0_halve_55 ?_
        refine z_casti (y := nI (k + 1)) (nI_1 k) ?_
        refine z_iastK C dX0_halve_56 rfl (by omega) (by decide) ?_
        exact z_vret C hrt dX0_halve_57 (by decide) (by decide) (⟨rfl, by unfold q_halve; rw [← hv]; rfl⟩)
      · skip
        obtain ⟨r1, rfl⟩ : ∃ r1, r = r1 + 1 := by
          cases r with
          | zero => exact absurd ((hv_cond k (by omega) 0 (by omega)).mpr rfl) h27
          | succ r1 => exact ⟨r1, rfl⟩
        refine z_lvq (lv' := [(4, .int (nI (k + r1))), (0, .ref (base + 3)), (1, .int (nI P)), (2, .int (nI k))]) (by rw [show nI (k + (r1 + 1)) - 1 = nI (k + r1) from nI_pred _]) ?_
        refine z_aload_n C dX0_halve_30 rfl 1 rfl ?_
        refine z_iload_n C dX0_halve_31 rfl 2 rfl ?_
        refine z_iconst (v := 1) C dX0_halve_32 (by decide) ?_
        refine z_iload C dX0_halve_33 0 rfl ?_
        refine z_ishl C dX0_halve_35 ?_
        refine z_casti (y := nI (2 ^ (k + r1))) (nI_1lt _ (by omega)) ?_
        refine z_iadd C dX0_halve_36 ?_
        refine z_casti (y := nI (P + 2 ^ (k + r1))) (nI_add _ _) ?_
        refine z_iload C dX0_halve_37 0 rfl ?_
        refine z_callV (rest := []) C (m_X0_layFree l G base xs sc td q1 tl (P + 2 ^ (k + r1)) (k + r1) (by have := Nat.two_pow_pos (k + r1); rw [show k + (r1 + 1) = (k + r1) + 1 from rfl, Nat.pow_succ] at hpw; omega) (by omega)) ml_X0_79 kw_X0_layFree rfl rfl rfl rfl (by simp [Value.category]) dX0_halve_39 (by decide) (by decide) (by decide) (by decide) ?_
        rintro _ _ ⟨rfl, rfl⟩
        refine z_st (st' := []) rfl ?_
        refine z_iinc (k := 0) (v := (nI (k + r1) - 1)) (lv' := [(4, .int ((nI (k + r1) - 1))), (0, .ref (base + 3)), (1, .int (nI P)), (2, .int (nI k))]) C dX0_halve_42 rfl (add_m1 _) (by decide) rfl ?_
        refine z_goto (tgt := 24) C dX0_halve_45 (by decide) ?_
        refine z_lv (lv' := [(4, .int ((nI (k + r1) - 1))), (0, .ref (base + 3)), (1, .int (nI P)), (2, .int (nI k))]) [0, 1, 2, 3] rfl ?_
        exact ih r1 _ (by omega) (by omega) (by rw [show k + (r1 + 1) = (k + r1) + 1 from rfl, Nat.pow_succ] at hpw; omega) (by rw [← hv]; rfl)
  exact loop (q.1 P - 1 - k + 1) (q.1 P - 1 - k) _ (by omega) (by omega) (by rw [show k + (q.1 P - 1 - k) = q.1 P - 1 by omega]; exact hr) rfl

set_option maxHeartbeats 4000000 in
set_option maxRecDepth 100000 in
theorem m_X0_join (l : Launch) (G : z_G) (base : Nat) (xs : Nat → va_E) (sc td : Nat → Int32) (q : q_T) (tl : List va_E) (hq : ∀ p, q.1 p ≤ 7) (hu : ∀ p, q.2.1 p ≤ 13) (f k : Nat) (hf : f < 256) (hk : k ≤ 6) : z_M l G base yX0_join cX0_join 6 none 1 0 0 [.ref (base + 3), .int (nI f), .int (nI k)] (hpB G base xs sc td q tl) (fun v hp' => v = none ∧ hp' = hpB G base xs sc td (q_join (6 - k) q f k) tl) := by
  refine z_M.of (lv0 := [(0, .ref (base + 3)), (1, .int (nI f)), (2, .int (nI k))]) (by decide) (Nat.le_of_ble_eq_true rfl) rfl ?_
  intro p e s m below meth c hmn hrt C
  refine z_iload_n C dX0_join_0 rfl 1 rfl ?_
  refine z_istore_n (lv' := [(3, .int (nI f)), (0, .ref (base + 3)), (1, .int (nI f)), (2, .int (nI k))]) C dX0_join_1 rfl (by decide) rfl ?_
  refine z_iload_n C dX0_join_2 rfl 3 rfl ?_
  refine z_istore (lv' := [(4, .int (nI k)), (3, .int (nI f)), (0, .ref (base + 3)), (1, .int (nI f)), (2, .int (nI k))]) C dX0_join_3 (by decide) rfl ?_
  refine z_lv (lv' := [(4, .int (nI k)), (3, .int (nI f)), (0, .ref (base + 3))]) [0, 1, 2] rfl ?_
  have loop : ∀ (n : Nat) (j : Nat) (g : Nat) (q1 : q_T), (j ≤ 6) → (7 ≤ n + j) → (g < 256) → (∀ z, q1.1 z ≤ 7) → (∀ z, q1.2.1 z ≤ 13) → (q_join (6 - j) q1 g j = q_join (6 - k) q f k) → z_R p l e (z_rm 1 0 0) s m ([Value.ref (base + 3), .int (nI f), .int (nI k)] : List Value).toArray below meth c (MQ below (z_Qc G base (fun v hp' => v = none ∧ hp' = hpB G base xs sc td (q_join (6 - k) q f k) tl)) ([Value.ref (base + 3), .int (nI f), .int (nI k)] : List Value).toArray s 0 0 (fun z => base ≤ z)) G base 6 0 0 5 [(4, .int (nI j)), (3, .int (nI g)), (0, .ref (base + 3))] [] (hpB G base xs sc td q1 tl) := by
    intro n
    induction n with
    | zero => intro j g q1 hj hn0 hg hq1 hu1 hv; exact absurd hn0 (by omega)
    | succ n ih =>
      intro j g q1 hj hn0 hg hq1 hu1 hv
      refine z_iload C dX0_join_5 0 rfl ?_
      refine z_bipush (v := 6) C dX0_join_7 (by decide) ?_
      refine z_icmp_ge (tgt := 74) C dX0_join_9 (by decide) (fun h9 => ?_) (fun h9 => ?_)
      · skip
        refine z_aload_n C dX0_join_74 rfl 2 rfl ?_
        refine z_iload_n C dX0_join_75 rfl 1 rfl ?_
        refine z_iload C dX0_join_76 0 rfl ?_
        refine z_callV (rest := []) C (m_X0_layFree l G base xs sc td q1 tl g j hg (by omega)) ml_X0_79 kw_X0_layFree rfl rfl rfl rfl (by simp [Value.category]) dX0_join_78 (by decide) (by decide) (by decide) (by decide) ?_
        rintro _ _ ⟨rfl, rfl⟩
        refine z_st (st' := []) rfl ?_
        exact z_vret C hrt dX0_join_81 (by decide) (by decide) (⟨rfl, by rw [← hv, q_join_end (by first | exact fun z => bI_eq h24 z.2 | exact fun z => absurd h9 (nI_ge z.1 (by decide)))]⟩)
      · skip
        have hj6 : j < 6 := by
          rcases Nat.lt_or_ge j 6 with z | z
          · exact z
          · exact absurd (nI_le (a := 6) (b := j) z (by omega)) h9
        refine z_aload_n C dX0_join_12 rfl 2 rfl ?_
        refine z_iload_n C dX0_join_13 rfl 1 rfl ?_
        refine z_iload C dX0_join_14 0 rfl ?_
        refine z_callS (rest := [.ref (base + 3)]) C (m_X0_buddyOf l G base _ g j (by omega)) ml_X0_82 kw_X0_buddyOf rfl rfl (by simp [Value.category]) dX0_join_16 (by decide) (by decide) (by decide) (by decide) ?_
        rintro _ _ ⟨rfl, rfl⟩
        refine z_st (st' := [.int (nI (g ^^^ 2 ^ j)), .ref (base + 3)]) rfl ?_
        refine z_iload C dX0_join_19 0 rfl ?_
        refine z_callV (rest := []) C (m_X0_isFree l G base xs sc td q1 tl hq1 hu1 (g ^^^ 2 ^ j) j (xor_lt j (by omega) g hg).1 (by omega)) ml_X0_75 kw_X0_isFree rfl rfl rfl rfl (by simp [Value.category]) dX0_join_21 (by decide) (by decide) (by decide) (by decide) ?_
        rintro _ _ ⟨rfl, rfl⟩
        refine z_st (st' := [.int ((bI (decide (q1.1 (g ^^^ 2 ^ j) = j + 1 ∧ q1.2.1 (g ^^^ 2 ^ j) = 0))))]) rfl ?_
        refine z_if_eq (tgt := 74) C dX0_join_24 (by decide) (fun h24 => ?_) (fun h24 => ?_)
        · skip
          refine z_aload_n C dX0_join_74 rfl 2 rfl ?_
          refine z_iload_n C dX0_join_75 rfl 1 rfl ?_
          refine z_iload C dX0_join_76 0 rfl ?_
          refine z_callV (rest := []) C (m_X0_layFree l G base xs sc td q1 tl g j hg (by omega)) ml_X0_79 kw_X0_layFree rfl rfl rfl rfl (by simp [Value.category]) dX0_join_78 (by decide) (by decide) (by decide) (by decide) ?_
          rintro _ _ ⟨rfl, rfl⟩
          refine z_st (st' := []) rfl ?_
          exact z_vret C hrt dX0_join_81 (by decide) (by decide) (⟨rfl, by rw [← hv, q_join_end (by first | exact fun z => bI_eq h24 z.2 | exact fun z => absurd h9 (nI_ge z.1 (by decide)))]⟩)
        · skip
          refine z_iload_n C dX0_join_27 rfl 1 rfl ?_
          refine z_iload C dX0_join_28 0 rfl ?_
          refine z_callS (rest := []) C (m_X0_buddyOf l G base _ g j (by omega)) ml_X0_82 kw_X0_buddyOf rfl rfl (by simp [Value.category]) dX0_join_30 (by decide) (by decide) (by decide) (by decide) ?_
          rintro _ _ ⟨rfl, rfl⟩
          refine z_st (st' := [.int (nI (g ^^^ 2 ^ j))]) rfl ?_
          have hxl := (xor_lt j (by omega) g hg).1
          refine z_istore (lv' := [(5, .int (nI (g ^^^ 2 ^ j))), (4, .int (nI j)), (3, .int (nI g)), (0, .ref (base + 3))]) C dX0_join_33 (by decide) rfl ?_
          refine z_aload_n C dX0_join_35 rfl 3 rfl ?_
          refine z_get C fl_X0_22 dX0_join_36 rfl rfl ?_
          refine z_iload C dX0_join_39 1 rfl ?_
          refine z_dup2 C dX0_join_41 rfl rfl ?_
          refine z_ialdN C dX0_join_42 rfl (by omega) (by decide) ?_
          refine z_iconst (v := 1) C dX0_join_43 (by decide) ?_
          refine z_isub C dX0_join_44 ?_
          refine z_iastN C dX0_join_45 rfl (by omega) (by decide) ?_
          refine z_aload_n C dX0_join_46 rfl 3 rfl ?_
          refine z_get C fl_X0_15 dX0_join_47 rfl rfl ?_
          refine z_iload_n C dX0_join_50 rfl 2 rfl ?_
          refine z_iconst (v := 0) C dX0_join_51 (by decide) ?_
          refine z_casti (y := nI 0) (rfl) ?_
          refine z_iastK C dX0_join_52 rfl (by omega) (by decide) ?_
          refine z_aload_n C dX0_join_53 rfl 3 rfl ?_
          refine z_get C fl_X0_15 dX0_join_54 rfl rfl ?_
          refine z_iload C dX0_join_57 0 rfl ?_
          refine z_iconst (v := 0) C dX0_join_59 (by decide) ?_
          refine z_casti (y := nI 0) (rfl) ?_
          refine z_iastK C dX0_join_60 rfl (by omega) (by decide) ?_
          refine z_iload_n C dX0_join_61 rfl 2 rfl ?_
          refine z_iload C dX0_join_62 0 rfl ?_
          refine z_mmin C ml_X0_85 st_min in_J9 kc_min dX0_join_64 (by decide) (Nat.le_of_ble_eq_true rfl) (by decide) (by decide) ?_
          refine z_casti (y := nI (min g (g ^^^ 2 ^ j))) (min_nI (by omega) (by omega)) ?_
          refine z_istore_n (lv' := [(3, .int (nI (min g (g ^^^ 2 ^ j)))), (5, .int (nI (g ^^^ 2 ^ j))), (4, .int (nI j)), (0, .ref (base + 3))]) C dX0_join_67 rfl (by decide) rfl ?_
          refine z_iinc (k := 2) (v := nI (j + 1)) (lv' := [(4, .int (nI (j + 1))), (3, .int (nI (min g (g ^^^ 2 ^ j)))), (5, .int (nI (g ^^^ 2 ^ j))), (0, .ref (base + 3))]) C dX0_join_68 rfl (nI_1 j) (by decide) rfl ?_
          refine z_goto (tgt := 5) C dX0_join_71 (by decide) ?_
          refine z_lv (lv' := [(4, .int (nI (j + 1))), (3, .int (nI (min g (g ^^^ 2 ^ j)))), (0, .ref (base + 3))]) [0, 1, 3] rfl ?_
          refine z_hp (hp' := hpB G base xs sc td (va_up (va_up q1.1 g 0) (g ^^^ 2 ^ j) 0, q1.2.1, upd q1.2.2 j (q1.2.2 j - 1)) tl) rfl ?_
          exact ih (j + 1) (min g (g ^^^ 2 ^ j)) _ (by omega) (by omega) (by omega) (fun z => by show va_up (va_up q1.1 g 0) (g ^^^ 2 ^ j) 0 z ≤ 7; unfold va_up; split; omega; split; omega; exact hq1 z) hu1 (by rw [← hv]; exact (q_join_go hj6 (bI_ne h24)).symm)
  exact loop 7 k f q (by omega) (by omega) (by omega) hq hu rfl

set_option maxHeartbeats 4000000 in
set_option maxRecDepth 100000 in
theorem m_X0_claim (l : Launch) (G : z_G) (base : Nat) (xs : Nat → va_E) (sc td : Nat → Int32) (q : q_T) (tl : List va_E) (hq : ∀ p, q.1 p ≤ 7) (hu : ∀ p, q.2.1 p ≤ 13) (hal : ∀ p, p < 256 → q.1 p ≠ 0 → p + 2 ^ (q.1 p - 1) ≤ 256) (k u : Nat) (hk : k ≤ 6) : z_M l G base yX0_claim cX0_claim 5 (some .int) 2 0 0 [.ref (base + 3), .int (nI k), .int (nI u)] (hpB G base xs sc td q tl) (fun v hp' => v = some (.int (oI (j_take sc q k))) ∧ hp' = hpB G base xs (j_scl sc q k) td (j_qcl sc q k u) tl) := by
  refine z_M.of (lv0 := [(0, .ref (base + 3)), (1, .int (nI k)), (2, .int (nI u))]) (by decide) (Nat.le_of_ble_eq_true rfl) rfl ?_
  intro p e s m below meth c hmn hrt C
  refine z_aload_n C dX0_claim_0 rfl 0 rfl ?_
  refine z_get C fl_X0_25 dX0_claim_1 rfl rfl ?_
  refine z_if_ne (tgt := 11) C dX0_claim_4 (by decide) (fun h4 => ?_) (fun h4 => ?_)
  · skip
    refine z_iconst (v := 0) C dX0_claim_11 (by decide) ?_
    refine z_istore_n (lv' := [(3, .int ((0 : Int32))), (0, .ref (base + 3)), (1, .int (nI k)), (2, .int (nI u))]) C dX0_claim_12 rfl (by decide) rfl ?_
    refine z_aload_n C dX0_claim_13 rfl 1 rfl ?_
    refine z_get C fl_X0_25 dX0_claim_14 rfl rfl ?_
    refine z_iconst (v := -1) C dX0_claim_17 (by decide) ?_
    refine z_icmp_eq (tgt := 31) C dX0_claim_18 (by decide) (fun h18 => ?_) (fun h18 => ?_)
    · skip
      try (refine z_hp (hp' := hpB G base xs (upd sc 7 (sc 7 - 1)) td q tl) rfl ?_)
      refine z_iload_n C dX0_claim_31 rfl 0 rfl ?_
      refine z_if_eq (tgt := 39) C dX0_claim_32 (by decide) (fun h32 => ?_) (fun h32 => absurd h32 (by decide))
      refine z_aload_n C dX0_claim_39 rfl 1 rfl ?_
      refine z_iload_n C dX0_claim_40 rfl 2 rfl ?_
      refine z_callV (rest := []) C (m_X0_leastFree l G base xs sc td q tl hq hu k hk) ml_X0_47 kw_X0_leastFree rfl rfl rfl rfl (by simp [Value.category]) dX0_claim_41 (by decide) (by decide) (by decide) (by decide) ?_
      rintro _ _ ⟨rfl, rfl⟩
      refine z_st (st' := [.int (oI (q_lp q.1 q.2.1 (q_lo q.2.2 (6 - k) k) 256 0))]) rfl ?_
      rcases hlp : q_lp q.1 q.2.1 (q_lo q.2.2 (6 - k) k) 256 0 with _ | P
      · skip
        refine z_istore (lv' := [(4, .int ((-1 : Int32))), (3, .int ((0 : Int32))), (0, .ref (base + 3)), (1, .int (nI k)), (2, .int (nI u))]) C dX0_claim_44 (by decide) rfl ?_
        refine z_iload C dX0_claim_46 0 rfl ?_
        refine z_iconst (v := -1) C dX0_claim_48 (by decide) ?_
        refine z_icmp_ne (tgt := 64) C dX0_claim_49 (by decide) (fun h49 => absurd h49 (by decide)) (fun h49 => ?_)
        refine z_aload_n C dX0_claim_52 rfl 2 rfl ?_
        refine z_dup C dX0_claim_53 rfl ?_
        refine z_get C fl_X0_51 dX0_claim_54 rfl rfl ?_
        refine z_iconst (v := 1) C dX0_claim_57 (by decide) ?_
        refine z_iadd C dX0_claim_58 ?_
        refine z_put C fl_X0_51 fp_X0 rfl dX0_claim_59 rfl (by simp) rfl rfl ?_
        refine z_iconst (v := -1) C dX0_claim_62 (by decide) ?_
        exact z_iret C hrt rfl dX0_claim_63 (by decide) (by decide) (⟨by rw [show j_take sc q k = none by unfold j_take q_take; first | rw [if_pos h4] | (rw [if_neg h4]; exact hlp)]; rfl, by unfold j_scl j_qcl; rw [show j_take sc q k = none by unfold j_take q_take; first | rw [if_pos h4] | (rw [if_neg h4]; exact hlp)]; unfold s_arm; first | rw [if_pos h18]; rfl | rw [if_neg h18]; rfl⟩)
      · skip
        have hPl := q_lp_lt 256 0 P hlp
        have hge := q_lo_ge (fc := q.2.2) (6 - k) k
        have hle := q_lo_le (fc := q.2.2) (6 - k) k
        have hP : P < 256 := by omega
        refine z_istore (lv' := [(4, .int (nI P)), (3, .int ((0 : Int32))), (0, .ref (base + 3)), (1, .int (nI k)), (2, .int (nI u))]) C dX0_claim_44 (by decide) rfl ?_
        refine z_iload C dX0_claim_46 0 rfl ?_
        refine z_iconst (v := -1) C dX0_claim_48 (by decide) ?_
        refine z_icmp_ne (tgt := 64) C dX0_claim_49 (by decide) (fun h49 => ?_) (fun h49 => absurd h49 (nI_m1 (by omega)))
        refine z_aload_n C dX0_claim_64 rfl 2 rfl ?_
        refine z_iload C dX0_claim_65 0 rfl ?_
        refine z_iload_n C dX0_claim_67 rfl 3 rfl ?_
        refine z_callV (rest := []) C (m_X0_halve l G base xs sc td q tl P k hP (by omega) (hq P) (hal P hP (by omega))) ml_X0_54 kw_X0_halve rfl rfl rfl rfl (by simp [Value.category]) dX0_claim_68 (by decide) (by decide) (by decide) (by decide) ?_
        rintro _ _ ⟨rfl, rfl⟩
        refine z_st (st' := []) rfl ?_
        refine z_aload_n C dX0_claim_71 rfl 2 rfl ?_
        refine z_get C fl_X0_19 dX0_claim_72 rfl rfl ?_
        refine z_iload C dX0_claim_75 0 rfl ?_
        refine z_iload_n C dX0_claim_77 rfl 4 rfl ?_
        refine z_iastK C dX0_claim_78 rfl (by omega) (by decide) ?_
        refine z_aload_n C dX0_claim_79 rfl 2 rfl ?_
        refine z_dup C dX0_claim_80 rfl ?_
        refine z_get C fl_X0_57 dX0_claim_81 rfl rfl ?_
        refine z_iconst (v := 1) C dX0_claim_84 (by decide) ?_
        refine z_iadd C dX0_claim_85 ?_
        refine z_put C fl_X0_57 fp_X0 rfl dX0_claim_86 rfl (by simp) rfl rfl ?_
        refine z_aload_n C dX0_claim_89 rfl 2 rfl ?_
        refine z_dup C dX0_claim_90 rfl ?_
        refine z_get C fl_X0_40 dX0_claim_91 rfl rfl ?_
        refine z_iconst (v := 1) C dX0_claim_94 (by decide) ?_
        refine z_iload_n C dX0_claim_95 rfl 3 rfl ?_
        refine z_ishl C dX0_claim_96 ?_
        refine z_casti (y := nI (2 ^ k)) (nI_1lt k (by omega)) ?_
        refine z_isub C dX0_claim_97 ?_
        refine z_put C fl_X0_40 fp_X0 rfl dX0_claim_98 rfl (by simp) rfl rfl ?_
        refine z_aload_n C dX0_claim_101 rfl 2 rfl ?_
        refine z_aload_n C dX0_claim_102 rfl 2 rfl ?_
        refine z_get C fl_X0_60 dX0_claim_103 rfl rfl ?_
        refine z_aload_n C dX0_claim_106 rfl 2 rfl ?_
        refine z_get C fl_X0_29 dX0_claim_107 rfl rfl ?_
        refine z_aload_n C dX0_claim_110 rfl 2 rfl ?_
        refine z_get C fl_X0_40 dX0_claim_111 rfl rfl ?_
        refine z_isub C dX0_claim_114 ?_
        refine z_mmax C ml_X0_63 st_max in_J9 kc_max dX0_claim_115 (by decide) (Nat.le_of_ble_eq_true rfl) (by decide) (by decide) ?_
        refine z_put C fl_X0_60 fp_X0 rfl dX0_claim_118 rfl (by simp) rfl rfl ?_
        refine z_iload C dX0_claim_121 0 rfl ?_
        exact z_iret C hrt rfl dX0_claim_123 (by decide) (by decide) (⟨by rw [show j_take sc q k = some P by unfold j_take q_take; rw [if_neg h4]; exact hlp]; rfl, by unfold j_scl j_qcl; rw [show j_take sc q k = some P by unfold j_take q_take; rw [if_neg h4]; exact hlp]; unfold s_arm; first | rw [if_pos h18]; rfl | rw [if_neg h18]; rfl⟩)
    · skip
      refine z_aload_n C dX0_claim_21 rfl 1 rfl ?_
      refine z_dup C dX0_claim_22 rfl ?_
      refine z_get C fl_X0_25 dX0_claim_23 rfl rfl ?_
      refine z_iconst (v := 1) C dX0_claim_26 (by decide) ?_
      refine z_isub C dX0_claim_27 ?_
      refine z_put C fl_X0_25 fp_X0 rfl dX0_claim_28 rfl (by simp) rfl rfl ?_
      try (refine z_hp (hp' := hpB G base xs (upd sc 7 (sc 7 - 1)) td q tl) rfl ?_)
      refine z_iload_n C dX0_claim_31 rfl 0 rfl ?_
      refine z_if_eq (tgt := 39) C dX0_claim_32 (by decide) (fun h32 => ?_) (fun h32 => absurd h32 (by decide))
      refine z_aload_n C dX0_claim_39 rfl 1 rfl ?_
      refine z_iload_n C dX0_claim_40 rfl 2 rfl ?_
      refine z_callV (rest := []) C (m_X0_leastFree l G base xs (upd sc 7 (sc 7 - 1)) td q tl hq hu k hk) ml_X0_47 kw_X0_leastFree rfl rfl rfl rfl (by simp [Value.category]) dX0_claim_41 (by decide) (by decide) (by decide) (by decide) ?_
      rintro _ _ ⟨rfl, rfl⟩
      refine z_st (st' := [.int (oI (q_lp q.1 q.2.1 (q_lo q.2.2 (6 - k) k) 256 0))]) rfl ?_
      rcases hlp : q_lp q.1 q.2.1 (q_lo q.2.2 (6 - k) k) 256 0 with _ | P
      · skip
        refine z_istore (lv' := [(4, .int ((-1 : Int32))), (3, .int ((0 : Int32))), (0, .ref (base + 3)), (1, .int (nI k)), (2, .int (nI u))]) C dX0_claim_44 (by decide) rfl ?_
        refine z_iload C dX0_claim_46 0 rfl ?_
        refine z_iconst (v := -1) C dX0_claim_48 (by decide) ?_
        refine z_icmp_ne (tgt := 64) C dX0_claim_49 (by decide) (fun h49 => absurd h49 (by decide)) (fun h49 => ?_)
        refine z_aload_n C dX0_claim_52 rfl 2 rfl ?_
        refine z_dup C dX0_claim_53 rfl ?_
        refine z_get C fl_X0_51 dX0_claim_54 rfl rfl ?_
        refine z_iconst (v := 1) C dX0_claim_57 (by decide) ?_
        refine z_iadd C dX0_claim_58 ?_
        refine z_put C fl_X0_51 fp_X0 rfl dX0_claim_59 rfl (by simp) rfl rfl ?_
        refine z_iconst (v := -1) C dX0_claim_62 (by decide) ?_
        exact z_iret C hrt rfl dX0_claim_63 (by decide) (by decide) (⟨by rw [show j_take sc q k = none by unfold j_take q_take; first | rw [if_pos h4] | (rw [if_neg h4]; exact hlp)]; rfl, by unfold j_scl j_qcl; rw [show j_take sc q k = none by unfold j_take q_take; first | rw [if_pos h4] | (rw [if_neg h4]; exact hlp)]; unfold s_arm; first | rw [if_pos h18]; rfl | rw [if_neg h18]; rfl⟩)
      · skip
        have hPl := q_lp_lt 256 0 P hlp
        have hge := q_lo_ge (fc := q.2.2) (6 - k) k
        have hle := q_lo_le (fc := q.2.2) (6 - k) k
        have hP : P < 256 := by omega
        refine z_istore (lv' := [(4, .int (nI P)), (3, .int ((0 : Int32))), (0, .ref (base + 3)), (1, .int (nI k)), (2, .int (nI u))]) C dX0_claim_44 (by decide) rfl ?_
        refine z_iload C dX0_claim_46 0 rfl ?_
        refine z_iconst (v := -1) C dX0_claim_48 (by decide) ?_
        refine z_icmp_ne (tgt := 64) C dX0_claim_49 (by decide) (fun h49 => ?_) (fun h49 => absurd h49 (nI_m1 (by omega)))
        refine z_aload_n C dX0_claim_64 rfl 2 rfl ?_
        refine z_iload C dX0_claim_65 0 rfl ?_
        refine z_iload_n C dX0_claim_67 rfl 3 rfl ?_
        refine z_callV (rest := []) C (m_X0_halve l G base xs (upd sc 7 (sc 7 - 1)) td q tl P k hP (by omega) (hq P) (hal P hP (by omega))) ml_X0_54 kw_X0_halve rfl rfl rfl rfl (by simp [Value.category]) dX0_claim_68 (by decide) (by decide) (by decide) (by decide) ?_
        rintro _ _ ⟨rfl, rfl⟩
        refine z_st (st' := []) rfl ?_
        refine z_aload_n C dX0_claim_71 rfl 2 rfl ?_
        refine z_get C fl_X0_19 dX0_claim_72 rfl rfl ?_
        refine z_iload C dX0_claim_75 0 rfl ?_
        refine z_iload_n C dX0_claim_77 rfl 4 rfl ?_
        refine z_iastK C dX0_claim_78 rfl (by omega) (by decide) ?_
        refine z_aload_n C dX0_claim_79 rfl 2 rfl ?_
        refine z_dup C dX0_claim_80 rfl ?_
        refine z_get C fl_X0_57 dX0_claim_81 rfl rfl ?_
        refine z_iconst (v := 1) C dX0_claim_84 (by decide) ?_
        refine z_iadd C dX0_claim_85 ?_
        refine z_put C fl_X0_57 fp_X0 rfl dX0_claim_86 rfl (by simp) rfl rfl ?_
        refine z_aload_n C dX0_claim_89 rfl 2 rfl ?_
        refine z_dup C dX0_claim_90 rfl ?_
        refine z_get C fl_X0_40 dX0_claim_91 rfl rfl ?_
        refine z_iconst (v := 1) C dX0_claim_94 (by decide) ?_
        refine z_iload_n C dX0_claim_95 rfl 3 rfl ?_
        refine z_ishl C dX0_claim_96 ?_
        refine z_casti (y := nI (2 ^ k)) (nI_1lt k (by omega)) ?_
        refine z_isub C dX0_claim_97 ?_
        refine z_put C fl_X0_40 fp_X0 rfl dX0_claim_98 rfl (by simp) rfl rfl ?_
        refine z_aload_n C dX0_claim_101 rfl 2 rfl ?_
        refine z_aload_n C dX0_claim_102 rfl 2 rfl ?_
        refine z_get C fl_X0_60 dX0_claim_103 rfl rfl ?_
        refine z_aload_n C dX0_claim_106 rfl 2 rfl ?_
        refine z_get C fl_X0_29 dX0_claim_107 rfl rfl ?_
        refine z_aload_n C dX0_claim_110 rfl 2 rfl ?_
        refine z_get C fl_X0_40 dX0_claim_111 rfl rfl ?_
        refine z_isub C dX0_claim_114 ?_
        refine z_mmax C ml_X0_63 st_max in_J9 kc_max dX0_claim_115 (by decide) (Nat.le_of_ble_eq_true rfl) (by decide) (by decide) ?_
        refine z_put C fl_X0_60 fp_X0 rfl dX0_claim_118 rfl (by simp) rfl rfl ?_
        refine z_iload C dX0_claim_121 0 rfl ?_
        exact z_iret C hrt rfl dX0_claim_123 (by decide) (by decide) (⟨by rw [show j_take sc q k = some P by unfold j_take q_take; rw [if_neg h4]; exact hlp]; rfl, by unfold j_scl j_qcl; rw [show j_take sc q k = some P by unfold j_take q_take; rw [if_neg h4]; exact hlp]; unfold s_arm; first | rw [if_pos h18]; rfl | rw [if_neg h18]; rfl⟩)
  · skip
    refine z_iconst (v := 1) C dX0_claim_7 (by decide) ?_
    refine z_goto (tgt := 12) C dX0_claim_8 (by decide) ?_
    refine z_istore_n (lv' := [(3, .int ((1 : Int32))), (0, .ref (base + 3)), (1, .int (nI k)), (2, .int (nI u))]) C dX0_claim_12 rfl (by decide) rfl ?_
    refine z_aload_n C dX0_claim_13 rfl 1 rfl ?_
    refine z_get C fl_X0_25 dX0_claim_14 rfl rfl ?_
    refine z_iconst (v := -1) C dX0_claim_17 (by decide) ?_
    refine z_icmp_eq (tgt := 31) C dX0_claim_18 (by decide) (fun h18 => absurd h18 (by rw [h4]; decide)) (fun h18 => ?_)
    refine z_aload_n C dX0_claim_21 rfl 1 rfl ?_
    refine z_dup C dX0_claim_22 rfl ?_
    refine z_get C fl_X0_25 dX0_claim_23 rfl rfl ?_
    refine z_iconst (v := 1) C dX0_claim_26 (by decide) ?_
    refine z_isub C dX0_claim_27 ?_
    refine z_put C fl_X0_25 fp_X0 rfl dX0_claim_28 rfl (by simp) rfl rfl ?_
    try (refine z_hp (hp' := hpB G base xs (upd sc 7 (sc 7 - 1)) td q tl) rfl ?_)
    refine z_iload_n C dX0_claim_31 rfl 0 rfl ?_
    refine z_if_eq (tgt := 39) C dX0_claim_32 (by decide) (fun h32 => absurd h32 (by decide)) (fun h32 => ?_)
    refine z_iconst (v := -1) C dX0_claim_35 (by decide) ?_
    refine z_goto (tgt := 44) C dX0_claim_36 (by decide) ?_
    refine z_istore (lv' := [(4, .int ((-1 : Int32))), (3, .int ((1 : Int32))), (0, .ref (base + 3)), (1, .int (nI k)), (2, .int (nI u))]) C dX0_claim_44 (by decide) rfl ?_
    refine z_iload C dX0_claim_46 0 rfl ?_
    refine z_iconst (v := -1) C dX0_claim_48 (by decide) ?_
    refine z_icmp_ne (tgt := 64) C dX0_claim_49 (by decide) (fun h49 => absurd h49 (by decide)) (fun h49 => ?_)
    refine z_aload_n C dX0_claim_52 rfl 2 rfl ?_
    refine z_dup C dX0_claim_53 rfl ?_
    refine z_get C fl_X0_51 dX0_claim_54 rfl rfl ?_
    refine z_iconst (v := 1) C dX0_claim_57 (by decide) ?_
    refine z_iadd C dX0_claim_58 ?_
    refine z_put C fl_X0_51 fp_X0 rfl dX0_claim_59 rfl (by simp) rfl rfl ?_
    refine z_iconst (v := -1) C dX0_claim_62 (by decide) ?_
    exact z_iret C hrt rfl dX0_claim_63 (by decide) (by decide) (⟨by rw [show j_take sc q k = none by unfold j_take q_take; first | rw [if_pos h4] | (rw [if_neg h4]; exact hlp)]; rfl, by unfold j_scl j_qcl; rw [show j_take sc q k = none by unfold j_take q_take; first | rw [if_pos h4] | (rw [if_neg h4]; exact hlp)]; unfold s_arm; first | rw [if_pos h18]; rfl | rw [if_neg h18]; rfl⟩)

set_option maxHeartbeats 4000000 in
set_option maxRecDepth 100000 in
theorem m_X0_release (l : Launch) (G : z_G) (base : Nat) (xs : Nat → va_E) (sc td : Nat → Int32) (q : q_T) (tl : List va_E) (hq : ∀ p, q.1 p ≤ 7) (hu : ∀ p, q.2.1 p ≤ 13) (P : Nat) (hP : P < 256) (h1 : 1 ≤ q.1 P) : z_M l G base yX0_release cX0_release 3 none 2 0 0 [.ref (base + 3), .int (nI P)] (hpB G base xs sc td q tl) (fun v hp' => v = none ∧ hp' = hpB G base xs (upd (upd sc 6 (sc 6 + 1)) 2 (sc 2 + nI (2 ^ (q.1 P - 1)))) td (q_join (6 - (q.1 P - 1)) q P (q.1 P - 1)) tl) := by
  refine z_M.of (lv0 := [(0, .ref (base + 3)), (1, .int (nI P))]) (by decide) (Nat.le_of_ble_eq_true rfl) rfl ?_
  intro p e s m below meth c hmn hrt C
  have hq7 := hq P
  refine z_aload_n C dX0_release_0 rfl 0 rfl ?_
  refine z_iload_n C dX0_release_1 rfl 1 rfl ?_
  refine z_callV (rest := []) C (m_X0_orderFrom l G base xs sc td q tl (nI P)) ml_X0_69 kw_X0_orderFrom rfl rfl rfl rfl (by simp [Value.category]) dX0_release_2 (by decide) (by decide) (by decide) (by decide) ?_
  rintro _ _ ⟨rfl, rfl⟩
  refine z_st (st' := [.int (j_of q.1 (nI P))]) rfl ?_
  refine z_casti (y := nI (q.1 P - 1)) (by unfold j_of; rw [if_pos (pg_in hP), cl_nI hP]; exact pk_sub (b := 1) (by omega)) ?_
  refine z_istore_n (lv' := [(2, .int (nI (q.1 P - 1))), (0, .ref (base + 3)), (1, .int (nI P))]) C dX0_release_5 rfl (by decide) rfl ?_
  refine z_iload_n C dX0_release_6 rfl 0 rfl ?_
  refine z_iconst (v := -1) C dX0_release_7 (by decide) ?_
  refine z_icmp_ne (tgt := 12) C dX0_release_8 (by decide) (fun h8 => ?_) (fun h8 => absurd h8 (nI_m1 (by omega)))
  refine z_aload_n C dX0_release_12 rfl 1 rfl ?_
  refine z_dup C dX0_release_13 rfl ?_
  refine z_get C fl_X0_72 dX0_release_14 rfl rfl ?_
  refine z_iconst (v := 1) C dX0_release_17 (by decide) ?_
  refine z_iadd C dX0_release_18 ?_
  refine z_put C fl_X0_72 fp_X0 rfl dX0_release_19 rfl (by simp) rfl rfl ?_
  refine z_aload_n C dX0_release_22 rfl 1 rfl ?_
  refine z_dup C dX0_release_23 rfl ?_
  refine z_get C fl_X0_40 dX0_release_24 rfl rfl ?_
  refine z_iconst (v := 1) C dX0_release_27 (by decide) ?_
  refine z_iload_n C dX0_release_28 rfl 0 rfl ?_
  refine z_ishl C dX0_release_29 ?_
  refine z_casti (y := nI (2 ^ (q.1 P - 1))) (nI_1lt _ (by omega)) ?_
  refine z_iadd C dX0_release_30 ?_
  refine z_put C fl_X0_40 fp_X0 rfl dX0_release_31 rfl (by simp) rfl rfl ?_
  refine z_hp (hp' := hpB G base xs (upd (upd sc 6 (sc 6 + 1)) 2 (sc 2 + nI (2 ^ (q.1 P - 1)))) td q tl) (rfl) ?_
  refine z_aload_n C dX0_release_34 rfl 1 rfl ?_
  refine z_iload_n C dX0_release_35 rfl 2 rfl ?_
  refine z_iload_n C dX0_release_36 rfl 0 rfl ?_
  refine z_callV (rest := []) C (m_X0_join l G base xs (upd (upd sc 6 (sc 6 + 1)) 2 (sc 2 + nI (2 ^ (q.1 P - 1)))) td q tl hq hu P (q.1 P - 1) hP (by omega)) ml_X0_36 kw_X0_join rfl rfl rfl rfl (by simp [Value.category]) dX0_release_37 (by decide) (by decide) (by decide) (by decide) ?_
  rintro _ _ ⟨rfl, rfl⟩
  refine z_st (st' := []) rfl ?_
  exact z_vret C hrt dX0_release_40 (by decide) (by decide) (⟨rfl, rfl⟩)

set_option maxHeartbeats 4000000 in
set_option maxRecDepth 100000 in
theorem m_X0_tell (l : Launch) (G : z_G) (base : Nat) (xs : Nat → va_E) (sc td : Nat → Int32) (q : q_T) (tl : List va_E) (a b : Nat) (hab : a ≤ b) (hb : b < 256) : z_M l G base yX0_tell cX0_tell 4 none 0 0 0 [.ref (base + 3), .int (nI a), .int (nI b)] (hpB G base xs sc td q tl) (fun v hp' => v = none ∧ hp' = hpB G base xs (upd sc 1 (q_tell (b + 1 - a) a (td, sc 1)).2) (q_tell (b + 1 - a) a (td, sc 1)).1 q tl) := by
  refine z_M.of (lv0 := [(0, .ref (base + 3)), (1, .int (nI a)), (2, .int (nI b))]) (by decide) (Nat.le_of_ble_eq_true rfl) rfl ?_
  intro p e s m below meth c hmn hrt C
  refine z_iload_n C dX0_tell_0 rfl 1 rfl ?_
  refine z_istore_n (lv' := [(3, .int (nI a)), (0, .ref (base + 3)), (1, .int (nI a)), (2, .int (nI b))]) C dX0_tell_1 rfl (by decide) rfl ?_
  refine z_lv (lv' := [(3, .int (nI a)), (0, .ref (base + 3)), (2, .int (nI b))]) [0, 1, 3] rfl ?_
  have loop : ∀ (n : Nat) (r : Nat) (t : (Nat → Int32) × Int32), (r ≤ b + 1) → (b + 2 ≤ n + r) → (q_tell (b + 1 - r) r t = q_tell (b + 1 - a) a (td, sc 1)) → z_R p l e (z_rm 0 0 0) s m ([Value.ref (base + 3), .int (nI a), .int (nI b)] : List Value).toArray below meth c (MQ below (z_Qc G base (fun v hp' => v = none ∧ hp' = hpB G base xs (upd sc 1 (q_tell (b + 1 - a) a (td, sc 1)).2) (q_tell (b + 1 - a) a (td, sc 1)).1 q tl)) ([Value.ref (base + 3), .int (nI a), .int (nI b)] : List Value).toArray s 0 0 (fun z => base ≤ z)) G base 4 0 0 2 [(3, .int (nI r)), (0, .ref (base + 3)), (2, .int (nI b))] [] (hpB G base xs (upd sc 1 t.2) t.1 q tl) := by
    intro n
    induction n with
    | zero => intro r t hr hn0 hv; exact absurd hn0 (by omega)
    | succ n ih =>
      intro r t hr hn0 hv
      refine z_iload_n C dX0_tell_2 rfl 0 rfl ?_
      refine z_iload_n C dX0_tell_3 rfl 2 rfl ?_
      refine z_icmp_gt (tgt := 39) C dX0_tell_4 (by decide) (fun h4 => ?_) (fun h4 => ?_)
      · skip
        have hrb : r = b + 1 := by
          rcases Nat.lt_or_ge b r with z | z
          · omega
          · exact absurd h4 (nI_nlt z (by omega))
        exact z_vret C hrt dX0_tell_39 (by decide) (by decide) (⟨rfl, by rw [← hv, hrb, Nat.sub_self]; rfl⟩)
      · skip
        have hrb : r ≤ b := by
          rcases Nat.lt_or_ge b r with z | z
          · exact absurd (nI_lt z (by omega)) h4
          · exact z
        refine z_aload_n C dX0_tell_7 rfl 1 rfl ?_
        refine z_get C fl_X0_9 dX0_tell_8 rfl rfl ?_
        refine z_iload_n C dX0_tell_11 rfl 0 rfl ?_
        refine z_zaldN C dX0_tell_12 rfl (by omega) (by decide) ?_
        refine z_if_ne (tgt := 33) C dX0_tell_13 (by decide) (fun h13 => ?_) (fun h13 => ?_)
        · skip
          refine z_iinc (k := 0) (v := nI (r + 1)) (lv' := [(3, .int (nI (r + 1))), (0, .ref (base + 3)), (2, .int (nI b))]) C dX0_tell_33 rfl (nI_1 r) (by decide) rfl ?_
          refine z_goto (tgt := 2) C dX0_tell_36 (by decide) ?_
          refine z_lv (lv' := [(3, .int (nI (r + 1))), (0, .ref (base + 3)), (2, .int (nI b))]) [0, 1, 2] rfl ?_
          first
            | (refine z_hp (hp' := hpB G base xs (upd sc 1 (t.2 + 1)) (upd t.1 r 1) q tl) ?_ ?_
               · first | rfl | (unfold hpB q_oB; rfl)
               · exact ih (r + 1) (upd t.1 r 1, t.2 + 1) (by omega) (by omega) (by rw [← hv, show b + 1 - r = (b + 1 - (r + 1)) + 1 by omega]; show _ = q_tell _ _ (if t.1 r = 0 then _ else _); rw [if_pos h13]))
            | exact ih (r + 1) t (by omega) (by omega) (by rw [← hv, show b + 1 - r = (b + 1 - (r + 1)) + 1 by omega]; show _ = q_tell _ _ (if t.1 r = 0 then _ else _); rw [if_neg h13])
        · skip
          refine z_aload_n C dX0_tell_16 rfl 1 rfl ?_
          refine z_get C fl_X0_9 dX0_tell_17 rfl rfl ?_
          refine z_iload_n C dX0_tell_20 rfl 0 rfl ?_
          refine z_iconst (v := 1) C dX0_tell_21 (by decide) ?_
          refine z_zastN C dX0_tell_22 rfl (by omega) (by decide) ?_
          refine z_aload_n C dX0_tell_23 rfl 1 rfl ?_
          refine z_dup C dX0_tell_24 rfl ?_
          refine z_get C fl_X0_29 dX0_tell_25 rfl rfl ?_
          refine z_iconst (v := 1) C dX0_tell_28 (by decide) ?_
          refine z_iadd C dX0_tell_29 ?_
          refine z_put C fl_X0_29 fp_X0 rfl dX0_tell_30 rfl (by simp) rfl rfl ?_
          refine z_iinc (k := 0) (v := nI (r + 1)) (lv' := [(3, .int (nI (r + 1))), (0, .ref (base + 3)), (2, .int (nI b))]) C dX0_tell_33 rfl (nI_1 r) (by decide) rfl ?_
          refine z_goto (tgt := 2) C dX0_tell_36 (by decide) ?_
          refine z_lv (lv' := [(3, .int (nI (r + 1))), (0, .ref (base + 3)), (2, .int (nI b))]) [0, 1, 2] rfl ?_
          first
            | (refine z_hp (hp' := hpB G base xs (upd sc 1 (t.2 + 1)) (upd t.1 r 1) q tl) ?_ ?_
               · first | rfl | (unfold hpB q_oB; rfl)
               · exact ih (r + 1) (upd t.1 r 1, t.2 + 1) (by omega) (by omega) (by rw [← hv, show b + 1 - r = (b + 1 - (r + 1)) + 1 by omega]; show _ = q_tell _ _ (if t.1 r = 0 then _ else _); rw [if_pos h13]))
            | exact ih (r + 1) t (by omega) (by omega) (by rw [← hv, show b + 1 - r = (b + 1 - (r + 1)) + 1 by omega]; show _ = q_tell _ _ (if t.1 r = 0 then _ else _); rw [if_neg h13])
  refine z_hp (hp' := hpB G base xs (upd sc 1 (td, sc 1).2) (td, sc 1).1 q tl) ?_ (loop (b + 2) a (td, sc 1) (by omega) (by omega) rfl)
  unfold hpB q_oB
  rfl

set_option maxHeartbeats 4000000 in
set_option maxRecDepth 100000 in
theorem m_X0_open (l : Launch) (G : z_G) (base : Nat) (xs : Nat → va_E) (sc td : Nat → Int32) (q : q_T) (tl : List va_E) (hq : ∀ p, q.1 p ≤ 7) (hu : ∀ p, q.2.1 p ≤ 13) : z_M l G base yX0_open cX0_open 2 none 2 0 0 [.ref (base + 3)] (hpB G base xs sc td q tl) (fun v hp' => v = none ∧ hp' = hpB G base xs (upd (upd sc 0 1) 2 (sc 1)) td (q_open td 256 0 q) tl) := by
  refine z_M.of (lv0 := [(0, .ref (base + 3))]) (by decide) (Nat.le_of_ble_eq_true rfl) rfl ?_
  intro p e s m below meth c hmn hrt C
  refine z_aload_n C dX0_open_0 rfl 0 rfl ?_
  refine z_iconst (v := 1) C dX0_open_1 (by decide) ?_
  refine z_put C fl_X0_32 fp_X0 rfl dX0_open_2 rfl (by simp) rfl rfl ?_
  refine z_iconst (v := 0) C dX0_open_5 (by decide) ?_
  refine z_casti (y := nI 0) (rfl) ?_
  refine z_istore_n (lv' := [(1, .int (nI 0)), (0, .ref (base + 3))]) C dX0_open_6 rfl (by decide) rfl ?_
  refine z_lv (lv' := [(1, .int (nI 0)), (0, .ref (base + 3))]) [0, 1] rfl ?_
  have loop : ∀ (n : Nat) (r : Nat) (q1 : q_T), (r ≤ 256) → (257 ≤ n + r) → (∀ z, q1.1 z ≤ 7) → (∀ z, q1.2.1 z ≤ 13) → (q_open td (256 - r) r q1 = q_open td 256 0 q) → z_R p l e (z_rm 2 0 0) s m ([Value.ref (base + 3)] : List Value).toArray below meth c (MQ below (z_Qc G base (fun v hp' => v = none ∧ hp' = hpB G base xs (upd (upd sc 0 1) 2 (sc 1)) td (q_open td 256 0 q) tl)) ([Value.ref (base + 3)] : List Value).toArray s 0 0 (fun z => base ≤ z)) G base 2 0 0 7 [(1, .int (nI r)), (0, .ref (base + 3))] [] (hpB G base xs (upd sc 0 1) td q1 tl) := by
    intro n
    induction n with
    | zero => intro r q1 hr hn0 hq1 hu1 hv; exact absurd hn0 (by omega)
    | succ n ih =>
      intro r q1 hr hn0 hq1 hu1 hv
      refine z_iload_n C dX0_open_7 rfl 0 rfl ?_
      refine z_sipush (v := 256) C dX0_open_8 (by decide) ?_
      refine z_icmp_ge (tgt := 35) C dX0_open_11 (by decide) (fun h11 => ?_) (fun h11 => ?_)
      · skip
        have hre : r = 256 := by
          rcases Nat.lt_or_ge r 256 with z | z
          · exact absurd h11 (nI_ge z (by decide))
          · omega
        refine z_aload_n C dX0_open_35 rfl 1 rfl ?_
        refine z_aload_n C dX0_open_36 rfl 1 rfl ?_
        refine z_get C fl_X0_29 dX0_open_37 rfl rfl ?_
        refine z_put C fl_X0_40 fp_X0 rfl dX0_open_40 rfl (by simp) rfl rfl ?_
        exact z_vret C hrt dX0_open_43 (by decide) (by decide) (⟨rfl, by rw [← hv, hre, Nat.sub_self]; rfl⟩)
      · skip
        have hrl : r < 256 := by
          rcases Nat.lt_or_ge r 256 with z | z
          · exact z
          · exact absurd (nI_le (a := 256) (b := r) z (by omega)) h11
        refine z_aload_n C dX0_open_14 rfl 1 rfl ?_
        refine z_get C fl_X0_9 dX0_open_15 rfl rfl ?_
        refine z_iload_n C dX0_open_18 rfl 0 rfl ?_
        refine z_zaldN C dX0_open_19 rfl (by omega) (by decide) ?_
        refine z_if_eq (tgt := 29) C dX0_open_20 (by decide) (fun h20 => ?_) (fun h20 => ?_)
        · skip
          refine z_iinc (k := 0) (v := nI (r + 1)) (lv' := [(1, .int (nI (r + 1))), (0, .ref (base + 3))]) C dX0_open_29 rfl (nI_1 r) (by decide) rfl ?_
          refine z_goto (tgt := 7) C dX0_open_32 (by decide) ?_
          refine z_lv (lv' := [(1, .int (nI (r + 1))), (0, .ref (base + 3))]) [0, 1] rfl ?_
          first
            | exact ih (r + 1) q1 (by omega) (by omega) hq1 hu1 (by rw [← hv, show 256 - r = (256 - (r + 1)) + 1 by omega]; show _ = q_open _ _ _ (if td r = 0 then _ else _); rw [if_pos h20])
            | exact ih (r + 1) (q_join 6 q1 r 0) (by omega) (by omega) (q_join_ok 6 q1 r 0 (by omega) hq1 hu1).1 (q_join_ok 6 q1 r 0 (by omega) hq1 hu1).2 (by rw [← hv, show 256 - r = (256 - (r + 1)) + 1 by omega]; show _ = q_open _ _ _ (if td r = 0 then _ else _); rw [if_neg h20])
        · skip
          refine z_aload_n C dX0_open_23 rfl 1 rfl ?_
          refine z_iload_n C dX0_open_24 rfl 0 rfl ?_
          refine z_iconst (v := 0) C dX0_open_25 (by decide) ?_
          refine z_casti (y := nI 0) (rfl) ?_
          refine z_callV (rest := []) C (m_X0_join l G base xs (upd sc 0 1) td q1 tl hq1 hu1 r 0 (by omega) (by omega)) ml_X0_36 kw_X0_join rfl rfl rfl rfl (by simp [Value.category]) dX0_open_26 (by decide) (by decide) (by decide) (by decide) ?_
          rintro _ _ ⟨rfl, rfl⟩
          refine z_st (st' := []) rfl ?_
          refine z_iinc (k := 0) (v := nI (r + 1)) (lv' := [(1, .int (nI (r + 1))), (0, .ref (base + 3))]) C dX0_open_29 rfl (nI_1 r) (by decide) rfl ?_
          refine z_goto (tgt := 7) C dX0_open_32 (by decide) ?_
          refine z_lv (lv' := [(1, .int (nI (r + 1))), (0, .ref (base + 3))]) [0, 1] rfl ?_
          first
            | exact ih (r + 1) q1 (by omega) (by omega) hq1 hu1 (by rw [← hv, show 256 - r = (256 - (r + 1)) + 1 by omega]; show _ = q_open _ _ _ (if td r = 0 then _ else _); rw [if_pos h20])
            | exact ih (r + 1) (q_join 6 q1 r 0) (by omega) (by omega) (q_join_ok 6 q1 r 0 (by omega) hq1 hu1).1 (q_join_ok 6 q1 r 0 (by omega) hq1 hu1).2 (by rw [← hv, show 256 - r = (256 - (r + 1)) + 1 by omega]; show _ = q_open _ _ _ (if td r = 0 then _ else _); rw [if_neg h20])
  refine z_hp (hp' := hpB G base xs (upd sc 0 1) td q tl) ?_ (loop 257 0 q (by omega) (by omega) hq hu rfl)
  unfold hpB q_oB
  rfl
