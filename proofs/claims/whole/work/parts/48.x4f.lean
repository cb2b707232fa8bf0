set_option maxHeartbeats 4000000 in
set_option maxRecDepth 100000 in
theorem m_X4_usable (l : Launch) (G : z_G) (base : Nat) (sc td : Nat → Int32) (q : q_T) (nc : Nat) (cf : Nat → Nat → Int32) (pl : Nat → Nat) (S : Nat → Option s_T) (mem : Nat → Nat) (hp : List va_E) (hC : C_ok G base sc td q nc cf pl S mem hp) (a b : Nat) (hab : a ≤ b) (hb : b < 256) (hst : sc 0 = 0) : z_M l G base yX4_usable cX4_usable 3 (some .boolean) 1 0 0 [.ref (base + 0), .int (nI a), .int (nI b)] hp (fun v hp' => v = some (.int (1)) ∧ C_ok G base (upd sc 1 (q_tell (b + 1 - a) a (td, sc 1)).2) ((q_tell (b + 1 - a) a (td, sc 1)).1) (q) (nc) (cf) pl (S) (mem) hp' ∧ C_fr hp hp') := by
  refine z_M.of (lv0 := [(0, .ref (base + 0)), (1, .int (nI a)), (2, .int (nI b))]) (by decide) (Nat.le_of_ble_eq_true rfl) rfl ?_
  intro p e s m below meth c hmn hrt C
  refine z_aload_n C dX4_usable_0 rfl 0 rfl ?_
  refine z_get C fl_X4_19 dX4_usable_1 hC.1 rfl ?_
  refine z_get C fl_X4_48 dX4_usable_4 hC.2.2.2.1.1 rfl ?_
  refine z_if_ne (tgt := 26) C dX4_usable_7 (by decide) (fun h7 => absurd h7 (fun z => z hst)) (fun h7 => ?_)
  refine z_iload_n C dX4_usable_10 rfl 1 rfl ?_
  refine z_if_lt (tgt := 26) C dX4_usable_11 (by decide) (fun h11 => absurd h11 (nI_pos (by omega))) (fun h11 => ?_)
  refine z_iload_n C dX4_usable_14 rfl 2 rfl ?_
  refine z_sipush (v := 256) C dX4_usable_15 (by decide) ?_
  refine z_icmp_ge (tgt := 26) C dX4_usable_18 (by decide) (fun h18 => absurd h18 (nI_ge (b := 256) hb (by decide))) (fun h18 => ?_)
  refine z_iload_n C dX4_usable_21 rfl 1 rfl ?_
  refine z_iload_n C dX4_usable_22 rfl 2 rfl ?_
  refine z_icmp_le (tgt := 28) C dX4_usable_23 (by decide) (fun h23 => ?_) (fun h23 => absurd h23 (fun z => z (nI_le hab (by omega))))
  refine z_aload_n C dX4_usable_28 rfl 0 rfl ?_
  refine z_get C fl_X4_19 dX4_usable_29 hC.1 rfl ?_
  refine z_iload_n C dX4_usable_32 rfl 1 rfl ?_
  refine z_iload_n C dX4_usable_33 rfl 2 rfl ?_
  refine z_callV (rest := []) C (C_lift hC (fun xs tl => m_X0_tell l G base xs sc td q tl a b hab hb)) ml_X4_52 kw_X0_tell hC.2.2.2.1.1 rfl rfl rfl (by simp [Value.category]) dX4_usable_34 (by decide) (by decide) (by decide) (by decide) ?_
  rintro _ hp3 ⟨rfl, hC3, hF3⟩
  refine z_st (st' := []) rfl ?_
  refine z_iconst (v := 1) C dX4_usable_37 (by decide) ?_
  exact z_iret C hrt rfl dX4_usable_38 (by decide) (by decide) (⟨rfl, hC3, hF3⟩)

set_option maxHeartbeats 4000000 in
set_option maxRecDepth 100000 in
theorem m_X4_usable_2 (l : Launch) (G : z_G) (base : Nat) (sc td : Nat → Int32) (q : q_T) (nc : Nat) (cf : Nat → Nat → Int32) (pl : Nat → Nat) (S : Nat → Option s_T) (mem : Nat → Nat) (hp : List va_E) (hC : C_ok G base sc td q nc cf pl S mem hp) (x y : Int32) (hno : ¬ c_usB sc x y = true) : z_M l G base yX4_usable cX4_usable 3 (some .boolean) 1 0 0 [.ref (base + 0), .int (x), .int (y)] hp (fun v hp' => v = some (.int (0)) ∧ hp' = hp) := by
  refine z_M.of (lv0 := [(0, .ref (base + 0)), (1, .int (x)), (2, .int (y))]) (by decide) (Nat.le_of_ble_eq_true rfl) rfl ?_
  intro p e s m below meth c hmn hrt C
  refine z_aload_n C dX4_usable_0 rfl 0 rfl ?_
  refine z_get C fl_X4_19 dX4_usable_1 hC.1 rfl ?_
  refine z_get C fl_X4_48 dX4_usable_4 hC.2.2.2.1.1 rfl ?_
  refine z_if_ne (tgt := 26) C dX4_usable_7 (by decide) (fun h7 => ?_) (fun h7 => ?_)
  · skip
    refine z_iconst (v := 0) C dX4_usable_26 (by decide) ?_
    exact z_iret C hrt rfl dX4_usable_27 (by decide) (by decide) (⟨rfl, rfl⟩)
  · skip
    refine z_iload_n C dX4_usable_10 rfl 1 rfl ?_
    refine z_if_lt (tgt := 26) C dX4_usable_11 (by decide) (fun h11 => ?_) (fun h11 => ?_)
    · skip
      refine z_iconst (v := 0) C dX4_usable_26 (by decide) ?_
      exact z_iret C hrt rfl dX4_usable_27 (by decide) (by decide) (⟨rfl, rfl⟩)
    · skip
      refine z_iload_n C dX4_usable_14 rfl 2 rfl ?_
      refine z_sipush (v := 256) C dX4_usable_15 (by decide) ?_
      refine z_icmp_ge (tgt := 26) C dX4_usable_18 (by decide) (fun h18 => ?_) (fun h18 => ?_)
      · skip
        refine z_iconst (v := 0) C dX4_usable_26 (by decide) ?_
        exact z_iret C hrt rfl dX4_usable_27 (by decide) (by decide) (⟨rfl, rfl⟩)
      · skip
        refine z_iload_n C dX4_usable_21 rfl 1 rfl ?_
        refine z_iload_n C dX4_usable_22 rfl 2 rfl ?_
        refine z_icmp_le (tgt := 28) C dX4_usable_23 (by decide) (fun h23 => ?_) (fun h23 => ?_)
        · skip
          exact absurd (decide_eq_true ⟨by simpa using h7, Int32.not_lt.mp h11, Int32.not_le.mp h18, h23⟩) hno
        · skip
          refine z_iconst (v := 0) C dX4_usable_26 (by decide) ?_
          exact z_iret C hrt rfl dX4_usable_27 (by decide) (by decide) (⟨rfl, rfl⟩)

set_option maxHeartbeats 4000000 in
set_option maxRecDepth 100000 in
theorem m_X4_start (l : Launch) (G : z_G) (base : Nat) (sc td : Nat → Int32) (q : q_T) (nc : Nat) (cf : Nat → Nat → Int32) (pl : Nat → Nat) (S : Nat → Option s_T) (mem : Nat → Nat) (hp : List va_E) (hC : C_ok G base sc td q nc cf pl S mem hp) (kt ko kb : Nat → Nat) (hX : X_ok nc q cf S kt ko kb) (hst : sc 0 = 0) : z_M l G base yX4_start cX4_start 1 (some .int) 3 0 0 [.ref (base + 0)] hp (fun v hp' => v = some (.int (sc 1)) ∧ C_ok G base (upd (upd sc 0 1) 2 (sc 1)) (td) (q_open td 256 0 q) (nc) (cf) pl (S) (mem) hp' ∧ C_fr hp hp') := by
  refine z_M.of (lv0 := [(0, .ref (base + 0))]) (by decide) (Nat.le_of_ble_eq_true rfl) rfl ?_
  intro p e s m below meth c hmn hrt C
  refine z_aload_n C dX4_start_0 rfl 0 rfl ?_
  refine z_get C fl_X4_19 dX4_start_1 hC.1 rfl ?_
  refine z_get C fl_X4_48 dX4_start_4 hC.2.2.2.1.1 rfl ?_
  refine z_if_eq (tgt := 12) C dX4_start_7 (by decide) (fun h7 => ?_) (fun h7 => absurd h7 (fun z => z hst))
  refine z_aload_n C dX4_start_12 rfl 0 rfl ?_
  refine z_get C fl_X4_19 dX4_start_13 hC.1 rfl ?_
  refine z_callV (rest := []) C (C_lift hC (fun xs tl => m_X0_open l G base xs sc td q tl hX.q hX.u)) ml_X4_56 kw_X0_open hC.2.2.2.1.1 rfl rfl rfl (by simp [Value.category]) dX4_start_16 (by decide) (by decide) (by decide) (by decide) ?_
  rintro _ hp3 ⟨rfl, hC3, hF3⟩
  refine z_st (st' := []) rfl ?_
  refine z_aload_n C dX4_start_19 rfl 0 rfl ?_
  refine z_get C fl_X4_19 dX4_start_20 hC3.1 rfl ?_
  refine z_get C fl_X4_59 dX4_start_23 hC3.2.2.2.1.1 rfl ?_
  exact z_iret C hrt rfl dX4_start_26 (by decide) (by decide) (⟨rfl, hC3, hF3⟩)

set_option maxHeartbeats 4000000 in
set_option maxRecDepth 100000 in
theorem m_X4_start_2 (l : Launch) (G : z_G) (base : Nat) (sc td : Nat → Int32) (q : q_T) (nc : Nat) (cf : Nat → Nat → Int32) (pl : Nat → Nat) (S : Nat → Option s_T) (mem : Nat → Nat) (hp : List va_E) (hC : C_ok G base sc td q nc cf pl S mem hp) (hst : ¬ sc 0 = 0) : z_M l G base yX4_start cX4_start 1 (some .int) 3 0 0 [.ref (base + 0)] hp (fun v hp' => v = some (.int (-1)) ∧ hp' = hp) := by
  refine z_M.of (lv0 := [(0, .ref (base + 0))]) (by decide) (Nat.le_of_ble_eq_true rfl) rfl ?_
  intro p e s m below meth c hmn hrt C
  refine z_aload_n C dX4_start_0 rfl 0 rfl ?_
  refine z_get C fl_X4_19 dX4_start_1 hC.1 rfl ?_
  refine z_get C fl_X4_48 dX4_start_4 hC.2.2.2.1.1 rfl ?_
  refine z_if_eq (tgt := 12) C dX4_start_7 (by decide) (fun h7 => absurd h7 (hst)) (fun h7 => ?_)
  refine z_iconst (v := -1) C dX4_start_10 (by decide) ?_
  exact z_iret C hrt rfl dX4_start_11 (by decide) (by decide) (⟨rfl, rfl⟩)

set_option maxHeartbeats 4000000 in
set_option maxRecDepth 100000 in
theorem m_X4_pages (l : Launch) (G : z_G) (base : Nat) (sc td : Nat → Int32) (q : q_T) (nc : Nat) (cf : Nat → Nat → Int32) (pl : Nat → Nat) (S : Nat → Option s_T) (mem : Nat → Nat) (hp : List va_E) (hC : C_ok G base sc td q nc cf pl S mem hp) (kt ko kb : Nat → Nat) (hX : X_ok nc q cf S kt ko kb) (k : Nat) (hk : k ≤ 6) (hst : ¬ sc 0 = 0) : z_M l G base yX4_pages cX4_pages 2 (some .int) 3 0 0 [.ref (base + 0), .int (nI k)] hp (fun v hp' => v = some (.int (oI (j_take sc q k))) ∧ C_ok G base (j_scl sc q k) (td) (j_qcl sc q k 1) (nc) (cf) pl (S) (mem) hp' ∧ C_fr hp hp') := by
  refine z_M.of (lv0 := [(0, .ref (base + 0)), (1, .int (nI k))]) (by decide) (Nat.le_of_ble_eq_true rfl) rfl ?_
  intro p e s m below meth c hmn hrt C
  refine z_aload_n C dX4_pages_0 rfl 0 rfl ?_
  refine z_get C fl_X4_19 dX4_pages_1 hC.1 rfl ?_
  refine z_get C fl_X4_48 dX4_pages_4 hC.2.2.2.1.1 rfl ?_
  refine z_if_eq (tgt := 17) C dX4_pages_7 (by decide) (fun h7 => absurd h7 (hst)) (fun h7 => ?_)
  refine z_iload_n C dX4_pages_10 rfl 1 rfl ?_
  refine z_callS (rest := []) C (m_X4_isOrder l G base _ (nI k)) ml_X4_62 kw_X4_isOrder rfl rfl (by simp [Value.category]) dX4_pages_11 (by decide) (by decide) (by decide) (by decide) ?_
  rintro _ h9 ⟨rfl, e9⟩
  replace e9 := e9.symm
  subst e9
  refine z_st (st' := [.int ((bI (decide (0 ≤ nI k ∧ nI k ≤ 6))))]) rfl ?_
  refine z_if_ne (tgt := 19) C dX4_pages_14 (by decide) (fun h14 => ?_) (fun h14 => absurd h14 (fun z => bI_eq z (in_nI (M := 6) (by decide) hk)))
  refine z_aload_n C dX4_pages_19 rfl 0 rfl ?_
  refine z_get C fl_X4_19 dX4_pages_20 hC.1 rfl ?_
  refine z_iload_n C dX4_pages_23 rfl 1 rfl ?_
  refine z_iconst (v := 1) C dX4_pages_24 (by decide) ?_
  refine z_callV (rest := []) C (C_lift hC (fun xs tl => m_X0_claim l G base xs sc td q tl hX.q hX.u hX.al k 1 hk)) ml_X4_66 kw_X0_claim hC.2.2.2.1.1 rfl rfl rfl (by simp [Value.category]) dX4_pages_25 (by decide) (by decide) (by decide) (by decide) ?_
  rintro _ hp3 ⟨rfl, hC3, hF3⟩
  refine z_st (st' := [.int (oI (j_take sc q k))]) rfl ?_
  exact z_iret C hrt rfl dX4_pages_28 (by decide) (by decide) (⟨rfl, hC3, hF3⟩)

set_option maxHeartbeats 4000000 in
set_option maxRecDepth 100000 in
theorem m_X4_pages_2 (l : Launch) (G : z_G) (base : Nat) (sc td : Nat → Int32) (q : q_T) (nc : Nat) (cf : Nat → Nat → Int32) (pl : Nat → Nat) (S : Nat → Option s_T) (mem : Nat → Nat) (hp : List va_E) (hC : C_ok G base sc td q nc cf pl S mem hp) (x : Int32) (hno : ¬ (¬ sc 0 = 0 ∧ 0 ≤ x ∧ x ≤ 6)) : z_M l G base yX4_pages cX4_pages 2 (some .int) 3 0 0 [.ref (base + 0), .int (x)] hp (fun v hp' => v = some (.int (-1)) ∧ hp' = hp) := by
  refine z_M.of (lv0 := [(0, .ref (base + 0)), (1, .int (x))]) (by decide) (Nat.le_of_ble_eq_true rfl) rfl ?_
  intro p e s m below meth c hmn hrt C
  refine z_aload_n C dX4_pages_0 rfl 0 rfl ?_
  refine z_get C fl_X4_19 dX4_pages_1 hC.1 rfl ?_
  refine z_get C fl_X4_48 dX4_pages_4 hC.2.2.2.1.1 rfl ?_
  refine z_if_eq (tgt := 17) C dX4_pages_7 (by decide) (fun h7 => ?_) (fun h7 => ?_)
  · skip
    refine z_iconst (v := -1) C dX4_pages_17 (by decide) ?_
    exact z_iret C hrt rfl dX4_pages_18 (by decide) (by decide) (⟨rfl, rfl⟩)
  · skip
    refine z_iload_n C dX4_pages_10 rfl 1 rfl ?_
    refine z_callS (rest := []) C (m_X4_isOrder l G base _ (x)) ml_X4_62 kw_X4_isOrder rfl rfl (by simp [Value.category]) dX4_pages_11 (by decide) (by decide) (by decide) (by decide) ?_
    rintro _ h9 ⟨rfl, e9⟩
    replace e9 := e9.symm
    subst e9
    refine z_st (st' := [.int ((bI (decide (0 ≤ x ∧ x ≤ 6))))]) rfl ?_
    refine z_if_ne (tgt := 19) C dX4_pages_14 (by decide) (fun h14 => ?_) (fun h14 => ?_)
    · skip
      exact absurd ⟨h7, bI_ne h14⟩ hno
    · skip
      refine z_iconst (v := -1) C dX4_pages_17 (by decide) ?_
      exact z_iret C hrt rfl dX4_pages_18 (by decide) (by decide) (⟨rfl, rfl⟩)

set_option maxHeartbeats 4000000 in
set_option maxRecDepth 100000 in
theorem m_X4_freePages (l : Launch) (G : z_G) (base : Nat) (sc td : Nat → Int32) (q : q_T) (nc : Nat) (cf : Nat → Nat → Int32) (pl : Nat → Nat) (S : Nat → Option s_T) (mem : Nat → Nat) (hp : List va_E) (hC : C_ok G base sc td q nc cf pl S mem hp) (kt ko kb : Nat → Nat) (hX : X_ok nc q cf S kt ko kb) (P : Nat) (hP : P < 256) (hq1 : 1 ≤ q.1 P) (hw : j_wp q.1 q.2.1 (nI P) = 0) : z_M l G base yX4_freePages cX4_freePages 4 (some .int) 3 0 0 [.ref (base + 0), .int (nI P)] hp (fun v hp' => v = some (.int (nI (2 ^ (q.1 P - 1)))) ∧ C_ok G base (s_rel sc (q.1 P - 1)) (td) (q_rel q P) (nc) (cf) pl (S) (mem) hp' ∧ C_fr hp hp') := by
  refine z_M.of (lv0 := [(0, .ref (base + 0)), (1, .int (nI P))]) (by decide) (Nat.le_of_ble_eq_true rfl) rfl ?_
  intro p e s m below meth c hmn hrt C
  have hq7 := hX.q P
  refine z_aload_n C dX4_freePages_0 rfl 0 rfl ?_
  refine z_iload_n C dX4_freePages_1 rfl 1 rfl ?_
  refine z_callV (rest := []) C (m_X4_wrongWithPage l G base sc td q nc cf pl S mem _ hC hX.q (nI P)) ml_X4_69 kw_X4_wrongWithPage hC.1 rfl rfl rfl (by simp [Value.category]) dX4_freePages_2 (by decide) (by decide) (by decide) (by decide) ?_
  rintro _ h9 ⟨rfl, e9⟩
  replace e9 := e9.symm
  subst e9
  refine z_st (st' := [.int (j_wp q.1 q.2.1 (nI P))]) rfl ?_
  refine z_casti (y := (0 : Int32)) (hw) ?_
  refine z_istore_n (lv' := [(2, .int ((0 : Int32))), (0, .ref (base + 0)), (1, .int (nI P))]) C dX4_freePages_5 rfl (by decide) rfl ?_
  refine z_iload_n C dX4_freePages_6 rfl 0 rfl ?_
  refine z_if_eq (tgt := 12) C dX4_freePages_7 (by decide) (fun h7 => ?_) (fun h7 => absurd h7 (by decide))
  refine z_iconst (v := 1) C dX4_freePages_12 (by decide) ?_
  refine z_aload_n C dX4_freePages_13 rfl 1 rfl ?_
  refine z_get C fl_X4_19 dX4_freePages_14 hC.1 rfl ?_
  refine z_iload_n C dX4_freePages_17 rfl 2 rfl ?_
  refine z_callV (rest := [.int ((1 : Int32))]) C (C_same hC (fun xs tl => m_X0_orderFrom l G base xs sc td q tl (nI P))) ml_X4_73 kw_X0_orderFrom hC.2.2.2.1.1 rfl rfl rfl (by simp [Value.category]) dX4_freePages_18 (by decide) (by decide) (by decide) (by decide) ?_
  rintro _ h9 ⟨rfl, e9⟩
  replace e9 := e9.symm
  subst e9
  refine z_st (st' := [.int (j_of q.1 (nI P)), .int ((1 : Int32))]) rfl ?_
  refine z_casti (y := nI (q.1 P - 1)) (by rw [j_of_at hP]; exact pk_sub (b := 1) hq1) ?_
  refine z_ishl C dX4_freePages_21 ?_
  refine z_casti (y := nI (2 ^ (q.1 P - 1))) (nI_1lt _ (by omega)) ?_
  refine z_istore_n (lv' := [(3, .int (nI (2 ^ (q.1 P - 1)))), (2, .int ((0 : Int32))), (0, .ref (base + 0)), (1, .int (nI P))]) C dX4_freePages_22 rfl (by decide) rfl ?_
  refine z_aload_n C dX4_freePages_23 rfl 2 rfl ?_
  refine z_get C fl_X4_19 dX4_freePages_24 hC.1 rfl ?_
  refine z_iload_n C dX4_freePages_27 rfl 3 rfl ?_
  refine z_callV (rest := []) C (C_lift hC (fun xs tl => m_X0_release l G base xs sc td q tl hX.q hX.u P hP hq1)) ml_X4_76 kw_X0_release hC.2.2.2.1.1 rfl rfl rfl (by simp [Value.category]) dX4_freePages_28 (by decide) (by decide) (by decide) (by decide) ?_
  rintro _ hp3 ⟨rfl, hC3, hF3⟩
  refine z_st (st' := []) rfl ?_
  refine z_iload_n C dX4_freePages_31 rfl 0 rfl ?_
  exact z_iret C hrt rfl dX4_freePages_32 (by decide) (by decide) (⟨rfl, hC3, hF3⟩)

set_option maxHeartbeats 4000000 in
set_option maxRecDepth 100000 in
theorem m_X4_freePages_2 (l : Launch) (G : z_G) (base : Nat) (sc td : Nat → Int32) (q : q_T) (nc : Nat) (cf : Nat → Nat → Int32) (pl : Nat → Nat) (S : Nat → Option s_T) (mem : Nat → Nat) (hp : List va_E) (hC : C_ok G base sc td q nc cf pl S mem hp) (kt ko kb : Nat → Nat) (hX : X_ok nc q cf S kt ko kb) (x : Int32) (hw : ¬ j_wp q.1 q.2.1 x = 0) : z_M l G base yX4_freePages cX4_freePages 4 (some .int) 3 0 0 [.ref (base + 0), .int (x)] hp (fun v hp' => v = some (.int (j_wp q.1 q.2.1 (x))) ∧ hp' = hp) := by
  refine z_M.of (lv0 := [(0, .ref (base + 0)), (1, .int (x))]) (by decide) (Nat.le_of_ble_eq_true rfl) rfl ?_
  intro p e s m below meth c hmn hrt C
  refine z_aload_n C dX4_freePages_0 rfl 0 rfl ?_
  refine z_iload_n C dX4_freePages_1 rfl 1 rfl ?_
  refine z_callV (rest := []) C (m_X4_wrongWithPage l G base sc td q nc cf pl S mem _ hC hX.q (x)) ml_X4_69 kw_X4_wrongWithPage hC.1 rfl rfl rfl (by simp [Value.category]) dX4_freePages_2 (by decide) (by decide) (by decide) (by decide) ?_
  rintro _ h9 ⟨rfl, e9⟩
  replace e9 := e9.symm
  subst e9
  refine z_st (st' := [.int (j_wp q.1 q.2.1 (x))]) rfl ?_
  refine z_istore_n (lv' := [(2, .int (j_wp q.1 q.2.1 (x))), (0, .ref (base + 0)), (1, .int (x))]) C dX4_freePages_5 rfl (by decide) rfl ?_
  refine z_iload_n C dX4_freePages_6 rfl 0 rfl ?_
  refine z_if_eq (tgt := 12) C dX4_freePages_7 (by decide) (fun h7 => absurd h7 (hw)) (fun h7 => ?_)
  refine z_iload_n C dX4_freePages_10 rfl 0 rfl ?_
  exact z_iret C hrt rfl dX4_freePages_11 (by decide) (by decide) (⟨rfl, rfl⟩)

set_option maxHeartbeats 4000000 in
set_option maxRecDepth 100000 in
theorem m_X4_take (l : Launch) (G : z_G) (base : Nat) (sc td : Nat → Int32) (q : q_T) (nc : Nat) (cf : Nat → Nat → Int32) (pl : Nat → Nat) (S : Nat → Option s_T) (mem : Nat → Nat) (hp : List va_E) (hC : C_ok G base sc td q nc cf pl S mem hp) (kt ko kb : Nat → Nat) (hX : X_ok nc q cf S kt ko kb) (c0 : Nat) (hc0 : c0 < nc) (hst : ¬ sc 0 = 0) : z_M l G base yX4_take cX4_take 3 (some .int) 5 2 68 [.ref (base + 0), .int (nI c0)] hp (fun v hp' => ∃ x' sc' q' cf' S', v = some (.int x') ∧ T_take kt ko kb sc q cf S c0 x' sc' q' cf' S' ∧ C_ok G base sc' td q' nc cf' pl S' mem hp' ∧ C_fr hp hp') := by
  refine z_M.of (lv0 := [(0, .ref (base + 0)), (1, .int (nI c0))]) (by decide) (Nat.le_of_ble_eq_true rfl) rfl ?_
  intro p e s m below meth c hmn hrt C
  refine z_aload_n C dX4_take_0 rfl 0 rfl ?_
  refine z_iload_n C dX4_take_1 rfl 1 rfl ?_
  refine z_callV (rest := []) C (m_X4_cacheOf l G base sc td q nc cf pl S mem _ hC hX.nc (nI c0)) ml_X4_83 kw_X4_cacheOf hC.1 rfl rfl rfl (by simp [Value.category]) dX4_take_2 (by decide) (by decide) (by decide) (by decide) ?_
  rintro _ h9 ⟨rfl, e9⟩
  replace e9 := e9.symm
  subst e9
  refine z_st (st' := [va_rf (c_co base nc pl (nI c0))]) rfl ?_
  skip
  · skip
    refine z_st (st' := [.ref (base + (pl c0))]) (by rw [c_co_at hX.nc hc0]; rfl) ?_
    refine z_astore_n (lv' := [(2, .ref (base + (pl c0))), (0, .ref (base + 0)), (1, .int (nI c0))]) C dX4_take_5 rfl (by decide) rfl ?_
    refine z_aload_n C dX4_take_6 rfl 0 rfl ?_
    refine z_ifnull_s C dX4_take_7 ?_
    refine z_aload_n C dX4_take_10 rfl 1 rfl ?_
    refine z_get C fl_X4_19 dX4_take_11 hC.1 rfl ?_
    refine z_get C fl_X4_48 dX4_take_14 hC.2.2.2.1.1 rfl ?_
    refine z_if_ne (tgt := 22) C dX4_take_17 (by decide) (fun h17 => ?_) (fun h17 => absurd h17 (hst))
    refine z_aload_n C dX4_take_22 rfl 1 rfl ?_
    refine z_aload_n C dX4_take_23 rfl 0 rfl ?_
    refine z_callV (rest := []) C (m_X4_takeObject l G base sc td q nc cf pl S mem _ hC kt ko kb hX c0 hc0) ml_X4_87 kw_X4_takeObject hC.1 rfl rfl rfl (by simp [Value.category]) dX4_take_24 (by decide) (by decide) (by decide) (by decide) ?_
    rintro _ hp3 ⟨x3, sc3, q3, cf3, S3, rfl, hT3, hC3, hF3⟩
    refine z_st (st' := [.int (x3)]) rfl ?_
    exact z_iret C hrt rfl dX4_take_27 (by decide) (by decide) (⟨_, _, _, _, _, rfl, hT3, hC3, hF3⟩)

set_option maxHeartbeats 4000000 in
set_option maxRecDepth 100000 in
theorem m_X4_take_2 (l : Launch) (G : z_G) (base : Nat) (sc td : Nat → Int32) (q : q_T) (nc : Nat) (cf : Nat → Nat → Int32) (pl : Nat → Nat) (S : Nat → Option s_T) (mem : Nat → Nat) (hp : List va_E) (hC : C_ok G base sc td q nc cf pl S mem hp) (kt ko kb : Nat → Nat) (hX : X_ok nc q cf S kt ko kb) (x : Int32) (hno : ¬ (¬ sc 0 = 0 ∧ 0 ≤ x ∧ x < nI nc)) : z_M l G base yX4_take cX4_take 3 (some .int) 5 2 68 [.ref (base + 0), .int (x)] hp (fun v hp' => v = some (.int (-1)) ∧ hp' = hp) := by
  refine z_M.of (lv0 := [(0, .ref (base + 0)), (1, .int (x))]) (by decide) (Nat.le_of_ble_eq_true rfl) rfl ?_
  intro p e s m below meth c hmn hrt C
  refine z_aload_n C dX4_take_0 rfl 0 rfl ?_
  refine z_iload_n C dX4_take_1 rfl 1 rfl ?_
  refine z_callV (rest := []) C (m_X4_cacheOf l G base sc td q nc cf pl S mem _ hC hX.nc (x)) ml_X4_83 kw_X4_cacheOf hC.1 rfl rfl rfl (by simp [Value.category]) dX4_take_2 (by decide) (by decide) (by decide) (by decide) ?_
  rintro _ h9 ⟨rfl, e9⟩
  replace e9 := e9.symm
  subst e9
  refine z_st (st' := [va_rf (c_co base nc pl (x))]) rfl ?_
  rcases c_co_cases (base := base) (pl := pl) hX.nc x with ⟨hco, hcx⟩ | ⟨c0, hc0, rfl, hco⟩
  · skip
    refine z_st (st' := [.null]) (by rw [hco]; rfl) ?_
    refine z_astore_nq (x := none) (lv' := [(2, .null), (0, .ref (base + 0)), (1, .int (x))]) C dX4_take_5 rfl (by decide) rfl ?_
    refine z_aload_nq (x := none) C dX4_take_6 rfl 0 rfl ?_
    refine z_ifnull_n (tgt := 20) C dX4_take_7 (by decide) ?_
    refine z_iconst (v := -1) C dX4_take_20 (by decide) ?_
    exact z_iret C hrt rfl dX4_take_21 (by decide) (by decide) (⟨rfl, rfl⟩)
  · skip
    refine z_st (st' := [.ref (base + (pl c0))]) (by rw [hco]; rfl) ?_
    refine z_astore_n (lv' := [(2, .ref (base + (pl c0))), (0, .ref (base + 0)), (1, .int (nI c0))]) C dX4_take_5 rfl (by decide) rfl ?_
    refine z_aload_n C dX4_take_6 rfl 0 rfl ?_
    refine z_ifnull_s C dX4_take_7 ?_
    refine z_aload_n C dX4_take_10 rfl 1 rfl ?_
    refine z_get C fl_X4_19 dX4_take_11 hC.1 rfl ?_
    refine z_get C fl_X4_48 dX4_take_14 hC.2.2.2.1.1 rfl ?_
    refine z_if_ne (tgt := 22) C dX4_take_17 (by decide) (fun h17 => ?_) (fun h17 => ?_)
    · skip
      exact absurd ⟨h17, nI_pos' (by have := hX.nc; omega), nI_lt hc0 (by have := hX.nc; omega)⟩ hno
    · skip
      refine z_iconst (v := -1) C dX4_take_20 (by decide) ?_
      exact z_iret C hrt rfl dX4_take_21 (by decide) (by decide) (⟨rfl, rfl⟩)

set_option maxHeartbeats 4000000 in
set_option maxRecDepth 100000 in
theorem m_X4_give (l : Launch) (G : z_G) (base : Nat) (sc td : Nat → Int32) (q : q_T) (nc : Nat) (cf : Nat → Nat → Int32) (pl : Nat → Nat) (S : Nat → Option s_T) (mem : Nat → Nat) (hp : List va_E) (hC : C_ok G base sc td q nc cf pl S mem hp) (kt ko kb : Nat → Nat) (hX : X_ok nc q cf S kt ko kb) (c0 : Nat) (hc0 : c0 < nc) (a P i : Nat) (hG : H_give q S kt kb c0 a P i) (hw : c_wo q S kt kb c0 (nI a) = 0) : z_M l G base yX4_give cX4_give 5 (some .int) 5 0 0 [.ref (base + 0), .int (nI c0), .int (nI a)] hp (fun v hp' => (∃ x' sc' q' cf' S', v = some (.int x') ∧ T_give sc q cf S c0 P i x' sc' q' cf' S' ∧ C_ok G base sc' td q' nc cf' pl S' mem hp' ∧ C_fr hp hp')) := by
  refine z_M.of (lv0 := [(0, .ref (base + 0)), (1, .int (nI c0)), (2, .int (nI a))]) (by decide) (Nat.le_of_ble_eq_true rfl) rfl ?_
  intro p e s m below meth c hmn hrt C
  refine z_aload_n C dX4_give_0 rfl 0 rfl ?_
  refine z_iload_n C dX4_give_1 rfl 1 rfl ?_
  refine z_callV (rest := []) C (m_X4_cacheOf l G base sc td q nc cf pl S mem _ hC hX.nc (nI c0)) ml_X4_83 kw_X4_cacheOf hC.1 rfl rfl rfl (by simp [Value.category]) dX4_give_2 (by decide) (by decide) (by decide) (by decide) ?_
  rintro _ h9 ⟨rfl, e9⟩
  replace e9 := e9.symm
  subst e9
  refine z_st (st' := [va_rf (c_co base nc pl (nI c0))]) rfl ?_
  skip
  · skip
    refine z_st (st' := [.ref (base + (pl c0))]) (by rw [c_co_at hX.nc hc0]; rfl) ?_
    refine z_astore_n (lv' := [(3, .ref (base + (pl c0))), (0, .ref (base + 0)), (1, .int (nI c0)), (2, .int (nI a))]) C dX4_give_5 rfl (by decide) rfl ?_
    refine z_aload_n C dX4_give_6 rfl 0 rfl ?_
    refine z_ifnonnull_s (tgt := 13) C dX4_give_7 (by decide) ?_
    refine z_aload_n C dX4_give_13 rfl 1 rfl ?_
    refine z_aload_n C dX4_give_14 rfl 0 rfl ?_
    refine z_iload_n C dX4_give_15 rfl 3 rfl ?_
    refine z_callV (rest := []) C (m_X4_wrongWithObject l G base sc td q nc cf pl S mem _ hC kt ko kb hX c0 hc0 (nI a)) ml_X4_91 kw_X4_wrongWithObject hC.1 rfl rfl rfl (by simp [Value.category]) dX4_give_16 (by decide) (by decide) (by decide) (by decide) ?_
    rintro _ h9 ⟨rfl, e9⟩
    replace e9 := e9.symm
    subst e9
    refine z_st (st' := [.int (c_wo q S kt kb c0 (nI a))]) rfl ?_
    refine z_casti (y := (0 : Int32)) (hw) ?_
    refine z_istore (lv' := [(4, .int ((0 : Int32))), (3, .ref (base + (pl c0))), (0, .ref (base + 0)), (1, .int (nI c0)), (2, .int (nI a))]) C dX4_give_19 (by decide) rfl ?_
    refine z_iload C dX4_give_21 0 rfl ?_
    refine z_if_eq (tgt := 31) C dX4_give_23 (by decide) (fun h23 => ?_) (fun h23 => absurd h23 (by decide))
    refine z_aload_n C dX4_give_31 rfl 2 rfl ?_
    refine z_aload_n C dX4_give_32 rfl 1 rfl ?_
    refine z_iload_n C dX4_give_33 rfl 4 rfl ?_
    refine z_callV (rest := []) C (m_X4_giveObject l G base sc td q nc cf pl S mem _ hC kt ko kb hX c0 hc0 a P i hG) ml_X4_95 kw_X4_giveObject hC.1 rfl rfl rfl (by simp [Value.category]) dX4_give_34 (by decide) (by decide) (by decide) (by decide) ?_
    rintro _ hp3 ⟨x3, sc3, q3, cf3, S3, rfl, hT3, hC3, hF3⟩
    refine z_st (st' := [.int (x3)]) rfl ?_
    exact z_iret C hrt rfl dX4_give_37 (by decide) (by decide) (⟨_, _, _, _, _, rfl, hT3, hC3, hF3⟩)

set_option maxHeartbeats 4000000 in
set_option maxRecDepth 100000 in
theorem m_X4_give_2 (l : Launch) (G : z_G) (base : Nat) (sc td : Nat → Int32) (q : q_T) (nc : Nat) (cf : Nat → Nat → Int32) (pl : Nat → Nat) (S : Nat → Option s_T) (mem : Nat → Nat) (hp : List va_E) (hC : C_ok G base sc td q nc cf pl S mem hp) (kt ko kb : Nat → Nat) (hX : X_ok nc q cf S kt ko kb) (c0 : Nat) (hc0 : c0 < nc) (y : Int32) (hw : ¬ c_wo q S kt kb c0 y = 0) : z_M l G base yX4_give cX4_give 5 (some .int) 5 0 0 [.ref (base + 0), .int (nI c0), .int (y)] hp (fun v hp' => v = some (.int (c_wo q S kt kb c0 (y))) ∧ hp' = hp) := by
  refine z_M.of (lv0 := [(0, .ref (base + 0)), (1, .int (nI c0)), (2, .int (y))]) (by decide) (Nat.le_of_ble_eq_true rfl) rfl ?_
  intro p e s m below meth c hmn hrt C
  refine z_aload_n C dX4_give_0 rfl 0 rfl ?_
  refine z_iload_n C dX4_give_1 rfl 1 rfl ?_
  refine z_callV (rest := []) C (m_X4_cacheOf l G base sc td q nc cf pl S mem _ hC hX.nc (nI c0)) ml_X4_83 kw_X4_cacheOf hC.1 rfl rfl rfl (by simp [Value.category]) dX4_give_2 (by decide) (by decide) (by decide) (by decide) ?_
  rintro _ h9 ⟨rfl, e9⟩
  replace e9 := e9.symm
  subst e9
  refine z_st (st' := [va_rf (c_co base nc pl (nI c0))]) rfl ?_
  skip
  · skip
    refine z_st (st' := [.ref (base + (pl c0))]) (by rw [c_co_at hX.nc hc0]; rfl) ?_
    refine z_astore_n (lv' := [(3, .ref (base + (pl c0))), (0, .ref (base + 0)), (1, .int (nI c0)), (2, .int (y))]) C dX4_give_5 rfl (by decide) rfl ?_
    refine z_aload_n C dX4_give_6 rfl 0 rfl ?_
    refine z_ifnonnull_s (tgt := 13) C dX4_give_7 (by decide) ?_
    refine z_aload_n C dX4_give_13 rfl 1 rfl ?_
    refine z_aload_n C dX4_give_14 rfl 0 rfl ?_
    refine z_iload_n C dX4_give_15 rfl 3 rfl ?_
    refine z_callV (rest := []) C (m_X4_wrongWithObject l G base sc td q nc cf pl S mem _ hC kt ko kb hX c0 hc0 (y)) ml_X4_91 kw_X4_wrongWithObject hC.1 rfl rfl rfl (by simp [Value.category]) dX4_give_16 (by decide) (by decide) (by decide) (by decide) ?_
    rintro _ h9 ⟨rfl, e9⟩
    replace e9 := e9.symm
    subst e9
    refine z_st (st' := [.int (c_wo q S kt kb c0 (y))]) rfl ?_
    refine z_istore (lv' := [(4, .int (c_wo q S kt kb c0 (y))), (3, .ref (base + (pl c0))), (0, .ref (base + 0)), (1, .int (nI c0)), (2, .int (y))]) C dX4_give_19 (by decide) rfl ?_
    refine z_iload C dX4_give_21 0 rfl ?_
    refine z_if_eq (tgt := 31) C dX4_give_23 (by decide) (fun h23 => absurd h23 (hw)) (fun h23 => ?_)
    refine z_iload C dX4_give_26 0 rfl ?_
    refine z_goto (tgt := 37) C dX4_give_28 (by decide) ?_
    exact z_iret C hrt rfl dX4_give_37 (by decide) (by decide) (⟨rfl, rfl⟩)

set_option maxHeartbeats 4000000 in
set_option maxRecDepth 100000 in
theorem m_X4_give_3 (l : Launch) (G : z_G) (base : Nat) (sc td : Nat → Int32) (q : q_T) (nc : Nat) (cf : Nat → Nat → Int32) (pl : Nat → Nat) (S : Nat → Option s_T) (mem : Nat → Nat) (hp : List va_E) (hC : C_ok G base sc td q nc cf pl S mem hp) (kt ko kb : Nat → Nat) (hX : X_ok nc q cf S kt ko kb) (x y : Int32) (hcx : ¬ (0 ≤ x ∧ x < nI nc)) : z_M l G base yX4_give cX4_give 5 (some .int) 5 0 0 [.ref (base + 0), .int (x), .int (y)] hp (fun v hp' => v = some (.int (-2)) ∧ hp' = hp) := by
  refine z_M.of (lv0 := [(0, .ref (base + 0)), (1, .int (x)), (2, .int (y))]) (by decide) (Nat.le_of_ble_eq_true rfl) rfl ?_
  intro p e s m below meth c hmn hrt C
  refine z_aload_n C dX4_give_0 rfl 0 rfl ?_
  refine z_iload_n C dX4_give_1 rfl 1 rfl ?_
  refine z_callV (rest := []) C (m_X4_cacheOf l G base sc td q nc cf pl S mem _ hC hX.nc (x)) ml_X4_83 kw_X4_cacheOf hC.1 rfl rfl rfl (by simp [Value.category]) dX4_give_2 (by decide) (by decide) (by decide) (by decide) ?_
  rintro _ h9 ⟨rfl, e9⟩
  replace e9 := e9.symm
  subst e9
  refine z_st (st' := [va_rf (c_co base nc pl (x))]) rfl ?_
  skip
  · skip
    refine z_st (st' := [.null]) (by rw [show c_co base nc pl x = none from if_neg hcx]; rfl) ?_
    refine z_astore_nq (x := none) (lv' := [(3, .null), (0, .ref (base + 0)), (1, .int (x)), (2, .int (y))]) C dX4_give_5 rfl (by decide) rfl ?_
    refine z_aload_nq (x := none) C dX4_give_6 rfl 0 rfl ?_
    refine z_ifnonnull_n C dX4_give_7 ?_
    refine z_bipush (v := -2) C dX4_give_10 (by decide) ?_
    exact z_iret C hrt rfl dX4_give_12 (by decide) (by decide) (⟨rfl, rfl⟩)

set_option maxHeartbeats 4000000 in
set_option maxRecDepth 100000 in
theorem m_X4_shrink_3 (l : Launch) (G : z_G) (base : Nat) (sc td : Nat → Int32) (q : q_T) (nc : Nat) (cf : Nat → Nat → Int32) (pl : Nat → Nat) (S : Nat → Option s_T) (mem : Nat → Nat) (hp : List va_E) (hC : C_ok G base sc td q nc cf pl S mem hp) (kt ko kb : Nat → Nat) (hX : X_ok nc q cf S kt ko kb) (x : Int32) (hcx : ¬ (0 ≤ x ∧ x < nI nc)) : z_M l G base yX4_shrink cX4_shrink 4 (some .int) 4 0 0 [.ref (base + 0), .int (x)] hp (fun v hp' => v = some (.int (-1)) ∧ hp' = hp) := by
  refine z_M.of (lv0 := [(0, .ref (base + 0)), (1, .int (x))]) (by decide) (Nat.le_of_ble_eq_true rfl) rfl ?_
  intro p e s m below meth c hmn hrt C
  refine z_aload_n C dX4_shrink_0 rfl 0 rfl ?_
  refine z_iload_n C dX4_shrink_1 rfl 1 rfl ?_
  refine z_callV (rest := []) C (m_X4_cacheOf l G base sc td q nc cf pl S mem _ hC hX.nc (x)) ml_X4_83 kw_X4_cacheOf hC.1 rfl rfl rfl (by simp [Value.category]) dX4_shrink_2 (by decide) (by decide) (by decide) (by decide) ?_
  rintro _ h9 ⟨rfl, e9⟩
  replace e9 := e9.symm
  subst e9
  refine z_st (st' := [va_rf (c_co base nc pl (x))]) rfl ?_
  skip
  · skip
    refine z_st (st' := [.null]) (by rw [show c_co base nc pl x = none from if_neg hcx]; rfl) ?_
    refine z_astore_nq (x := none) (lv' := [(2, .null), (0, .ref (base + 0)), (1, .int (x))]) C dX4_shrink_5 rfl (by decide) rfl ?_
    refine z_aload_nq (x := none) C dX4_shrink_6 rfl 0 rfl ?_
    refine z_ifnonnull_n C dX4_shrink_7 ?_
    refine z_iconst (v := -1) C dX4_shrink_10 (by decide) ?_
    exact z_iret C hrt rfl dX4_shrink_11 (by decide) (by decide) (⟨rfl, rfl⟩)

set_option maxHeartbeats 4000000 in
set_option maxRecDepth 100000 in
theorem m_X4_shrink_2 (l : Launch) (G : z_G) (base : Nat) (sc td : Nat → Int32) (q : q_T) (nc : Nat) (cf : Nat → Nat → Int32) (pl : Nat → Nat) (S : Nat → Option s_T) (mem : Nat → Nat) (hp : List va_E) (hC : C_ok G base sc td q nc cf pl S mem hp) (kt ko kb : Nat → Nat) (hX : X_ok nc q cf S kt ko kb) (c0 : Nat) (hc0 : c0 < nc) (h8 : cf c0 8 = -1) : z_M l G base yX4_shrink cX4_shrink 4 (some .int) 4 0 0 [.ref (base + 0), .int (nI c0)] hp (fun v hp' => v = some (.int (0)) ∧ hp' = hp) := by
  refine z_M.of (lv0 := [(0, .ref (base + 0)), (1, .int (nI c0))]) (by decide) (Nat.le_of_ble_eq_true rfl) rfl ?_
  intro p e s m below meth c hmn hrt C
  refine z_aload_n C dX4_shrink_0 rfl 0 rfl ?_
  refine z_iload_n C dX4_shrink_1 rfl 1 rfl ?_
  refine z_callV (rest := []) C (m_X4_cacheOf l G base sc td q nc cf pl S mem _ hC hX.nc (nI c0)) ml_X4_83 kw_X4_cacheOf hC.1 rfl rfl rfl (by simp [Value.category]) dX4_shrink_2 (by decide) (by decide) (by decide) (by decide) ?_
  rintro _ h9 ⟨rfl, e9⟩
  replace e9 := e9.symm
  subst e9
  refine z_st (st' := [va_rf (c_co base nc pl (nI c0))]) rfl ?_
  skip
  · skip
    refine z_st (st' := [.ref (base + (pl c0))]) (by rw [c_co_at hX.nc hc0]; rfl) ?_
    refine z_astore_n (lv' := [(2, .ref (base + (pl c0))), (0, .ref (base + 0)), (1, .int (nI c0))]) C dX4_shrink_5 rfl (by decide) rfl ?_
    refine z_aload_n C dX4_shrink_6 rfl 0 rfl ?_
    refine z_ifnonnull_s (tgt := 12) C dX4_shrink_7 (by decide) ?_
    refine z_aload_n C dX4_shrink_12 rfl 0 rfl ?_
    refine z_get C fl_X4_98 dX4_shrink_13 (hC.ca hc0) rfl ?_
    refine z_casti (y := (-1 : Int32)) (h8) ?_
    refine z_istore_n (lv' := [(3, .int ((-1 : Int32))), (2, .ref (base + (pl c0))), (0, .ref (base + 0)), (1, .int (nI c0))]) C dX4_shrink_16 rfl (by decide) rfl ?_
    refine z_iload_n C dX4_shrink_17 rfl 0 rfl ?_
    refine z_iconst (v := -1) C dX4_shrink_18 (by decide) ?_
    refine z_icmp_ne (tgt := 24) C dX4_shrink_19 (by decide) (fun h19 => absurd h19 (by decide)) (fun h19 => ?_)
    refine z_iconst (v := 0) C dX4_shrink_22 (by decide) ?_
    exact z_iret C hrt rfl dX4_shrink_23 (by decide) (by decide) (⟨rfl, rfl⟩)

set_option maxHeartbeats 4000000 in
set_option maxRecDepth 100000 in
theorem m_X4_shrink (l : Launch) (G : z_G) (base : Nat) (sc td : Nat → Int32) (q : q_T) (nc : Nat) (cf : Nat → Nat → Int32) (pl : Nat → Nat) (S : Nat → Option s_T) (mem : Nat → Nat) (hp : List va_E) (hC : C_ok G base sc td q nc cf pl S mem hp) (kt ko kb : Nat → Nat) (hX : X_ok nc q cf S kt ko kb) (c0 : Nat) (hc0 : c0 < nc) (E : Nat) (h8 : cf c0 8 = nI E) (hE : E < 256) (hq1 : 1 ≤ q.1 E) : z_M l G base yX4_shrink cX4_shrink 4 (some .int) 4 0 0 [.ref (base + 0), .int (nI c0)] hp (fun v hp' => v = some (.int (nI (2 ^ ko c0))) ∧ C_ok G base (s_rel sc (q.1 E - 1)) (td) (q_rel q E) (nc) (va_up cf c0 (upd (upd (cf c0) 8 (-1)) 6 (cf c0 6 - 1))) pl (S) (mem) hp' ∧ C_fr hp hp') := by
  refine z_M.of (lv0 := [(0, .ref (base + 0)), (1, .int (nI c0))]) (by decide) (Nat.le_of_ble_eq_true rfl) rfl ?_
  intro p e s m below meth c hmn hrt C
  obtain ⟨hk0, hk3, hk4, hk5, hkt, hkt2, hko, hkb, hkb2⟩ := hX.kf c0 hc0
  refine z_aload_n C dX4_shrink_0 rfl 0 rfl ?_
  refine z_iload_n C dX4_shrink_1 rfl 1 rfl ?_
  refine z_callV (rest := []) C (m_X4_cacheOf l G base sc td q nc cf pl S mem _ hC hX.nc (nI c0)) ml_X4_83 kw_X4_cacheOf hC.1 rfl rfl rfl (by simp [Value.category]) dX4_shrink_2 (by decide) (by decide) (by decide) (by decide) ?_
  rintro _ h9 ⟨rfl, e9⟩
  replace e9 := e9.symm
  subst e9
  refine z_st (st' := [va_rf (c_co base nc pl (nI c0))]) rfl ?_
  skip
  · skip
    refine z_st (st' := [.ref (base + (pl c0))]) (by rw [c_co_at hX.nc hc0]; rfl) ?_
    refine z_astore_n (lv' := [(2, .ref (base + (pl c0))), (0, .ref (base + 0)), (1, .int (nI c0))]) C dX4_shrink_5 rfl (by decide) rfl ?_
    refine z_aload_n C dX4_shrink_6 rfl 0 rfl ?_
    refine z_ifnonnull_s (tgt := 12) C dX4_shrink_7 (by decide) ?_
    refine z_aload_n C dX4_shrink_12 rfl 0 rfl ?_
    refine z_get C fl_X4_98 dX4_shrink_13 (hC.ca hc0) rfl ?_
    refine z_casti (y := nI E) (h8) ?_
    refine z_istore_n (lv' := [(3, .int (nI E)), (2, .ref (base + (pl c0))), (0, .ref (base + 0)), (1, .int (nI c0))]) C dX4_shrink_16 rfl (by decide) rfl ?_
    refine z_iload_n C dX4_shrink_17 rfl 0 rfl ?_
    refine z_iconst (v := -1) C dX4_shrink_18 (by decide) ?_
    refine z_icmp_ne (tgt := 24) C dX4_shrink_19 (by decide) (fun h19 => ?_) (fun h19 => absurd h19 (nI_m1 (by omega)))
    refine z_aload_n C dX4_shrink_24 rfl 1 rfl ?_
    refine z_iconst (v := -1) C dX4_shrink_25 (by decide) ?_
    refine z_put C fl_X4_98 fp_X1 rfl dX4_shrink_26 (hC.ca hc0) (by simp) rfl rfl ?_
    refine z_hp (hp' := hp.set (pl c0) (q_oC (upd (cf c0) 8 (-1)))) (rfl) ?_
    have hC2 := hC.setc hc0 (upd (cf c0) 8 (-1))
    refine z_aload_n C dX4_shrink_29 rfl 2 rfl ?_
    refine z_aload_n C dX4_shrink_30 rfl 1 rfl ?_
    refine z_iload_n C dX4_shrink_31 rfl 0 rfl ?_
    refine z_callV (rest := []) C (m_X4_dropSlab l G base sc td q nc (va_up cf c0 (upd (cf c0) 8 (-1))) pl S mem _ hC2 kt ko kb (X_ok.e8 hX hc0) c0 hc0 E hE hq1) ml_X4_101 kw_X4_dropSlab hC2.1 rfl rfl rfl (by simp [Value.category]) dX4_shrink_32 (by decide) (by decide) (by decide) (by decide) ?_
    rintro _ hp4 ⟨rfl, hC4, hF4⟩
    rw [va_up_up, va_up_self] at hC4
    refine z_st (st' := []) rfl ?_
    refine z_iconst (v := 1) C dX4_shrink_35 (by decide) ?_
    refine z_aload_n C dX4_shrink_36 rfl 1 rfl ?_
    refine z_get C fl_X4_105 dX4_shrink_37 (e_up (hC4.ca hc0)) rfl ?_
    refine z_casti (y := nI (ko c0)) (hk4) ?_
    refine z_ishl C dX4_shrink_40 ?_
    refine z_casti (y := nI (2 ^ ko c0)) (nI_1lt _ (by omega)) ?_
    exact z_iret C hrt rfl dX4_shrink_41 (by decide) (by decide) (⟨rfl, hC4, ((C_fr.rf hp).set (hC.cp hc0)).tr hF4⟩)

set_option maxHeartbeats 4000000 in
set_option maxRecDepth 100000 in
theorem m_X4_alloc (l : Launch) (G : z_G) (base : Nat) (sc td : Nat → Int32) (q : q_T) (nc : Nat) (cf : Nat → Nat → Int32) (pl : Nat → Nat) (S : Nat → Option s_T) (mem : Nat → Nat) (hp : List va_E) (hC : C_ok G base sc td q nc cf pl S mem hp) (kt ko kb : Nat → Nat) (hX : X_ok nc q cf S kt ko kb) (b : Nat) (hb : 1 ≤ b) (hb2 : b ≤ 4096) (hst : ¬ sc 0 = 0) : z_M l G base yX4_alloc cX4_alloc 2 (some .int) 6 2 68 [.ref (base + 0), .int (nI b)] hp (fun v hp' => ∃ x' sc' q' cf' S', v = some (.int x') ∧ T_kind kt ko kb sc q cf S (k_kf b 12 0) x' sc' q' cf' S' ∧ C_ok G base sc' td q' nc cf' pl S' mem hp' ∧ C_fr hp hp') := by
  refine z_M.of (lv0 := [(0, .ref (base + 0)), (1, .int (nI b))]) (by decide) (Nat.le_of_ble_eq_true rfl) rfl ?_
  intro p e s m below meth c hmn hrt C
  refine z_aload_n C dX4_alloc_0 rfl 0 rfl ?_
  refine z_get C fl_X4_19 dX4_alloc_1 hC.1 rfl ?_
  refine z_get C fl_X4_48 dX4_alloc_4 hC.2.2.2.1.1 rfl ?_
  refine z_if_eq (tgt := 17) C dX4_alloc_7 (by decide) (fun h7 => absurd h7 (hst)) (fun h7 => ?_)
  refine z_iload_n C dX4_alloc_10 rfl 1 rfl ?_
  refine z_callS (rest := []) C (m_X4_isBySize l G base _ (nI b)) ml_X4_108 kw_X4_isBySize rfl rfl (by simp [Value.category]) dX4_alloc_11 (by decide) (by decide) (by decide) (by decide) ?_
  rintro _ h9 ⟨rfl, e9⟩
  replace e9 := e9.symm
  subst e9
  refine z_st (st' := [.int ((bI (decide (1 ≤ nI b ∧ nI b ≤ 4096))))]) rfl ?_
  refine z_if_ne (tgt := 19) C dX4_alloc_14 (by decide) (fun h14 => ?_) (fun h14 => absurd h14 (fun z => bI_eq z ⟨nI_le (a := 1) hb (by omega), nI_le (b := 4096) hb2 (by decide)⟩))
  refine z_aload_n C dX4_alloc_19 rfl 0 rfl ?_
  refine z_iload_n C dX4_alloc_20 rfl 1 rfl ?_
  refine z_callS (rest := [.ref (base + 0)]) C (m_X4_kindFor l G base _ b (by omega)) ml_X4_111 kw_X4_kindFor rfl rfl (by simp [Value.category]) dX4_alloc_21 (by decide) (by decide) (by decide) (by decide) ?_
  rintro _ h9 ⟨rfl, e9⟩
  replace e9 := e9.symm
  subst e9
  refine z_st (st' := [.int (nI (k_kf b 12 0)), .ref (base + 0)]) rfl ?_
  refine z_callV (rest := []) C (m_X4_takeKind l G base sc td q nc cf pl S mem _ hC kt ko kb hX (k_kf b 12 0) k_kf_le) ml_X4_114 kw_X4_takeKind hC.1 rfl rfl rfl (by simp [Value.category]) dX4_alloc_24 (by decide) (by decide) (by decide) (by decide) ?_
  rintro _ hp3 ⟨x3, sc3, q3, cf3, S3, rfl, hT3, hC3, hF3⟩
  refine z_st (st' := [.int (x3)]) rfl ?_
  exact z_iret C hrt rfl dX4_alloc_27 (by decide) (by decide) (⟨_, _, _, _, _, rfl, hT3, hC3, hF3⟩)

set_option maxHeartbeats 4000000 in
set_option maxRecDepth 100000 in
theorem m_X4_alloc_2 (l : Launch) (G : z_G) (base : Nat) (sc td : Nat → Int32) (q : q_T) (nc : Nat) (cf : Nat → Nat → Int32) (pl : Nat → Nat) (S : Nat → Option s_T) (mem : Nat → Nat) (hp : List va_E) (hC : C_ok G base sc td q nc cf pl S mem hp) (x : Int32) (hno : ¬ (¬ sc 0 = 0 ∧ 1 ≤ x ∧ x ≤ 4096)) : z_M l G base yX4_alloc cX4_alloc 2 (some .int) 6 2 68 [.ref (base + 0), .int (x)] hp (fun v hp' => v = some (.int (-1)) ∧ hp' = hp) := by
  refine z_M.of (lv0 := [(0, .ref (base + 0)), (1, .int (x))]) (by decide) (Nat.le_of_ble_eq_true rfl) rfl ?_
  intro p e s m below meth c hmn hrt C
  refine z_aload_n C dX4_alloc_0 rfl 0 rfl ?_
  refine z_get C fl_X4_19 dX4_alloc_1 hC.1 rfl ?_
  refine z_get C fl_X4_48 dX4_alloc_4 hC.2.2.2.1.1 rfl ?_
  refine z_if_eq (tgt := 17) C dX4_alloc_7 (by decide) (fun h7 => ?_) (fun h7 => ?_)
  · skip
    refine z_iconst (v := -1) C dX4_alloc_17 (by decide) ?_
    exact z_iret C hrt rfl dX4_alloc_18 (by decide) (by decide) (⟨rfl, rfl⟩)
  · skip
    refine z_iload_n C dX4_alloc_10 rfl 1 rfl ?_
    refine z_callS (rest := []) C (m_X4_isBySize l G base _ (x)) ml_X4_108 kw_X4_isBySize rfl rfl (by simp [Value.category]) dX4_alloc_11 (by decide) (by decide) (by decide) (by decide) ?_
    rintro _ h9 ⟨rfl, e9⟩
    replace e9 := e9.symm
    subst e9
    refine z_st (st' := [.int ((bI (decide (1 ≤ x ∧ x ≤ 4096))))]) rfl ?_
    refine z_if_ne (tgt := 19) C dX4_alloc_14 (by decide) (fun h14 => ?_) (fun h14 => ?_)
    · skip
      exact absurd ⟨h7, bI_ne h14⟩ hno
    · skip
      refine z_iconst (v := -1) C dX4_alloc_17 (by decide) ?_
      exact z_iret C hrt rfl dX4_alloc_18 (by decide) (by decide) (⟨rfl, rfl⟩)

set_option maxHeartbeats 4000000 in
set_option maxRecDepth 100000 in
theorem m_X4_free (l : Launch) (G : z_G) (base : Nat) (sc td : Nat → Int32) (q : q_T) (nc : Nat) (cf : Nat → Nat → Int32) (pl : Nat → Nat) (S : Nat → Option s_T) (mem : Nat → Nat) (hp : List va_E) (hC : C_ok G base sc td q nc cf pl S mem hp) (kt ko kb : Nat → Nat) (hX : X_ok nc q cf S kt ko kb) (a P : Nat) (hG : H_gbs q S kt kb a P) (hw : c_ws q S kt kb (nI a) = 0) : z_M l G base yX4_free cX4_free 4 (some .int) 6 0 0 [.ref (base + 0), .int (nI a)] hp (fun v hp' => v = some (.int (nI (k_bytes (c_ka q P)))) ∧ ∃ sc' q' cf' S', T_gbs kt kb sc q cf S a P sc' q' cf' S' ∧ C_ok G base sc' td q' nc cf' pl S' mem hp' ∧ C_fr hp hp') := by
  refine z_M.of (lv0 := [(0, .ref (base + 0)), (1, .int (nI a))]) (by decide) (Nat.le_of_ble_eq_true rfl) rfl ?_
  intro p e s m below meth c hmn hrt C
  have hka := c_ka_le hX hG
  refine z_aload_n C dX4_free_0 rfl 0 rfl ?_
  refine z_iload_n C dX4_free_1 rfl 1 rfl ?_
  refine z_callV (rest := []) C (m_X4_wrongBySize l G base sc td q nc cf pl S mem _ hC kt ko kb hX (nI a)) ml_X4_117 kw_X4_wrongBySize hC.1 rfl rfl rfl (by simp [Value.category]) dX4_free_2 (by decide) (by decide) (by decide) (by decide) ?_
  rintro _ h9 ⟨rfl, e9⟩
  replace e9 := e9.symm
  subst e9
  refine z_st (st' := [.int (c_ws q S kt kb (nI a))]) rfl ?_
  refine z_casti (y := (0 : Int32)) (hw) ?_
  refine z_istore_n (lv' := [(2, .int ((0 : Int32))), (0, .ref (base + 0)), (1, .int (nI a))]) C dX4_free_5 rfl (by decide) rfl ?_
  refine z_iload_n C dX4_free_6 rfl 0 rfl ?_
  refine z_if_eq (tgt := 12) C dX4_free_7 (by decide) (fun h7 => ?_) (fun h7 => absurd h7 (by decide))
  refine z_aload_n C dX4_free_12 rfl 1 rfl ?_
  refine z_iload_n C dX4_free_13 rfl 2 rfl ?_
  refine z_callV (rest := []) C (m_X4_kindAt l G base sc td q nc cf pl S mem _ hC kt ko kb hX a P hG.1 hG.2.1 hG.2.2.1 hG.2.2.2.1) ml_X4_120 kw_X4_kindAt hC.1 rfl rfl rfl (by simp [Value.category]) dX4_free_14 (by decide) (by decide) (by decide) (by decide) ?_
  rintro _ h9 ⟨rfl, e9⟩
  replace e9 := e9.symm
  subst e9
  refine z_st (st' := [.int (nI (c_ka q P))]) rfl ?_
  refine z_callS (rest := []) C (m_X4_bytesOfKind l G base _ (c_ka q P) hka) ml_X4_123 kw_X4_bytesOfKind rfl rfl (by simp [Value.category]) dX4_free_17 (by decide) (by decide) (by decide) (by decide) ?_
  rintro _ h9 ⟨rfl, e9⟩
  replace e9 := e9.symm
  subst e9
  refine z_st (st' := [.int (nI (k_bytes (c_ka q P)))]) rfl ?_
  refine z_istore_n (lv' := [(3, .int (nI (k_bytes (c_ka q P)))), (2, .int ((0 : Int32))), (0, .ref (base + 0)), (1, .int (nI a))]) C dX4_free_20 rfl (by decide) rfl ?_
  refine z_aload_n C dX4_free_21 rfl 2 rfl ?_
  refine z_iload_n C dX4_free_22 rfl 3 rfl ?_
  refine z_callV (rest := []) C (m_X4_giveBySize l G base sc td q nc cf pl S mem _ hC kt ko kb hX a P hG) ml_X4_126 kw_X4_giveBySize hC.1 rfl rfl rfl (by simp [Value.category]) dX4_free_23 (by decide) (by decide) (by decide) (by decide) ?_
  rintro _ hp3 ⟨rfl, sc3, q3, cf3, S3, hT3, hC3, hF3⟩
  refine z_st (st' := []) rfl ?_
  refine z_iload_n C dX4_free_26 rfl 0 rfl ?_
  exact z_iret C hrt rfl dX4_free_27 (by decide) (by decide) (⟨rfl, _, _, _, _, hT3, hC3, hF3⟩)

set_option maxHeartbeats 4000000 in
set_option maxRecDepth 100000 in
theorem m_X4_free_2 (l : Launch) (G : z_G) (base : Nat) (sc td : Nat → Int32) (q : q_T) (nc : Nat) (cf : Nat → Nat → Int32) (pl : Nat → Nat) (S : Nat → Option s_T) (mem : Nat → Nat) (hp : List va_E) (hC : C_ok G base sc td q nc cf pl S mem hp) (kt ko kb : Nat → Nat) (hX : X_ok nc q cf S kt ko kb) (x : Int32) (hw : ¬ c_ws q S kt kb x = 0) : z_M l G base yX4_free cX4_free 4 (some .int) 6 0 0 [.ref (base + 0), .int (x)] hp (fun v hp' => v = some (.int (c_ws q S kt kb (x))) ∧ hp' = hp) := by
  refine z_M.of (lv0 := [(0, .ref (base + 0)), (1, .int (x))]) (by decide) (Nat.le_of_ble_eq_true rfl) rfl ?_
  intro p e s m below meth c hmn hrt C
  refine z_aload_n C dX4_free_0 rfl 0 rfl ?_
  refine z_iload_n C dX4_free_1 rfl 1 rfl ?_
  refine z_callV (rest := []) C (m_X4_wrongBySize l G base sc td q nc cf pl S mem _ hC kt ko kb hX (x)) ml_X4_117 kw_X4_wrongBySize hC.1 rfl rfl rfl (by simp [Value.category]) dX4_free_2 (by decide) (by decide) (by decide) (by decide) ?_
  rintro _ h9 ⟨rfl, e9⟩
  replace e9 := e9.symm
  subst e9
  refine z_st (st' := [.int (c_ws q S kt kb (x))]) rfl ?_
  refine z_istore_n (lv' := [(2, .int (c_ws q S kt kb (x))), (0, .ref (base + 0)), (1, .int (x))]) C dX4_free_5 rfl (by decide) rfl ?_
  refine z_iload_n C dX4_free_6 rfl 0 rfl ?_
  refine z_if_eq (tgt := 12) C dX4_free_7 (by decide) (fun h7 => absurd h7 (hw)) (fun h7 => ?_)
  refine z_iload_n C dX4_free_10 rfl 0 rfl ?_
  exact z_iret C hrt rfl dX4_free_11 (by decide) (by decide) (⟨rfl, rfl⟩)

set_option maxHeartbeats 4000000 in
set_option maxRecDepth 100000 in
theorem m_X4_size (l : Launch) (G : z_G) (base : Nat) (sc td : Nat → Int32) (q : q_T) (nc : Nat) (cf : Nat → Nat → Int32) (pl : Nat → Nat) (S : Nat → Option s_T) (mem : Nat → Nat) (hp : List va_E) (hC : C_ok G base sc td q nc cf pl S mem hp) (kt ko kb : Nat → Nat) (hX : X_ok nc q cf S kt ko kb) (a P : Nat) (hG : H_gbs q S kt kb a P) (hw : c_ws q S kt kb (nI a) = 0) : z_M l G base yX4_size cX4_size 3 (some .int) 6 0 0 [.ref (base + 0), .int (nI a)] hp (fun v hp' => v = some (.int (nI (k_bytes (c_ka q P)))) ∧ hp' = hp) := by
  refine z_M.of (lv0 := [(0, .ref (base + 0)), (1, .int (nI a))]) (by decide) (Nat.le_of_ble_eq_true rfl) rfl ?_
  intro p e s m below meth c hmn hrt C
  have hka := c_ka_le hX hG
  refine z_aload_n C dX4_size_0 rfl 0 rfl ?_
  refine z_iload_n C dX4_size_1 rfl 1 rfl ?_
  refine z_callV (rest := []) C (m_X4_wrongBySize l G base sc td q nc cf pl S mem _ hC kt ko kb hX (nI a)) ml_X4_117 kw_X4_wrongBySize hC.1 rfl rfl rfl (by simp [Value.category]) dX4_size_2 (by decide) (by decide) (by decide) (by decide) ?_
  rintro _ h9 ⟨rfl, e9⟩
  replace e9 := e9.symm
  subst e9
  refine z_st (st' := [.int (c_ws q S kt kb (nI a))]) rfl ?_
  refine z_casti (y := (0 : Int32)) (hw) ?_
  refine z_istore_n (lv' := [(2, .int ((0 : Int32))), (0, .ref (base + 0)), (1, .int (nI a))]) C dX4_size_5 rfl (by decide) rfl ?_
  refine z_iload_n C dX4_size_6 rfl 0 rfl ?_
  refine z_if_eq (tgt := 14) C dX4_size_7 (by decide) (fun h7 => ?_) (fun h7 => absurd h7 (by decide))
  refine z_aload_n C dX4_size_14 rfl 1 rfl ?_
  refine z_iload_n C dX4_size_15 rfl 2 rfl ?_
  refine z_callV (rest := []) C (m_X4_kindAt l G base sc td q nc cf pl S mem _ hC kt ko kb hX a P hG.1 hG.2.1 hG.2.2.1 hG.2.2.2.1) ml_X4_120 kw_X4_kindAt hC.1 rfl rfl rfl (by simp [Value.category]) dX4_size_16 (by decide) (by decide) (by decide) (by decide) ?_
  rintro _ h9 ⟨rfl, e9⟩
  replace e9 := e9.symm
  subst e9
  refine z_st (st' := [.int (nI (c_ka q P))]) rfl ?_
  refine z_callS (rest := []) C (m_X4_bytesOfKind l G base _ (c_ka q P) hka) ml_X4_123 kw_X4_bytesOfKind rfl rfl (by simp [Value.category]) dX4_size_19 (by decide) (by decide) (by decide) (by decide) ?_
  rintro _ h9 ⟨rfl, e9⟩
  replace e9 := e9.symm
  subst e9
  refine z_st (st' := [.int (nI (k_bytes (c_ka q P)))]) rfl ?_
  exact z_iret C hrt rfl dX4_size_22 (by decide) (by decide) (⟨rfl, rfl⟩)

set_option maxHeartbeats 4000000 in
set_option maxRecDepth 100000 in
theorem m_X4_size_2 (l : Launch) (G : z_G) (base : Nat) (sc td : Nat → Int32) (q : q_T) (nc : Nat) (cf : Nat → Nat → Int32) (pl : Nat → Nat) (S : Nat → Option s_T) (mem : Nat → Nat) (hp : List va_E) (hC : C_ok G base sc td q nc cf pl S mem hp) (kt ko kb : Nat → Nat) (hX : X_ok nc q cf S kt ko kb) (x : Int32) (hw : ¬ c_ws q S kt kb x = 0) : z_M l G base yX4_size cX4_size 3 (some .int) 6 0 0 [.ref (base + 0), .int (x)] hp (fun v hp' => v = some (.int (c_ws q S kt kb (x))) ∧ hp' = hp) := by
  refine z_M.of (lv0 := [(0, .ref (base + 0)), (1, .int (x))]) (by decide) (Nat.le_of_ble_eq_true rfl) rfl ?_
  intro p e s m below meth c hmn hrt C
  refine z_aload_n C dX4_size_0 rfl 0 rfl ?_
  refine z_iload_n C dX4_size_1 rfl 1 rfl ?_
  refine z_callV (rest := []) C (m_X4_wrongBySize l G base sc td q nc cf pl S mem _ hC kt ko kb hX (x)) ml_X4_117 kw_X4_wrongBySize hC.1 rfl rfl rfl (by simp [Value.category]) dX4_size_2 (by decide) (by decide) (by decide) (by decide) ?_
  rintro _ h9 ⟨rfl, e9⟩
  replace e9 := e9.symm
  subst e9
  refine z_st (st' := [.int (c_ws q S kt kb (x))]) rfl ?_
  refine z_istore_n (lv' := [(2, .int (c_ws q S kt kb (x))), (0, .ref (base + 0)), (1, .int (x))]) C dX4_size_5 rfl (by decide) rfl ?_
  refine z_iload_n C dX4_size_6 rfl 0 rfl ?_
  refine z_if_eq (tgt := 14) C dX4_size_7 (by decide) (fun h7 => absurd h7 (hw)) (fun h7 => ?_)
  refine z_iload_n C dX4_size_10 rfl 0 rfl ?_
  refine z_goto (tgt := 22) C dX4_size_11 (by decide) ?_
  exact z_iret C hrt rfl dX4_size_22 (by decide) (by decide) (⟨rfl, rfl⟩)

set_option maxHeartbeats 4000000 in
set_option maxRecDepth 100000 in
theorem m_X4_resize_2 (l : Launch) (G : z_G) (base : Nat) (sc td : Nat → Int32) (q : q_T) (nc : Nat) (cf : Nat → Nat → Int32) (pl : Nat → Nat) (S : Nat → Option s_T) (mem : Nat → Nat) (hp : List va_E) (hC : C_ok G base sc td q nc cf pl S mem hp) (kt ko kb : Nat → Nat) (hX : X_ok nc q cf S kt ko kb) (x y : Int32) (hw : ¬ c_ws q S kt kb x = 0) : z_M l G base yX4_resize cX4_resize 7 (some .int) 6 2 68 [.ref (base + 0), .int (x), .int (y)] hp (fun v hp' => v = some (.int (c_ws q S kt kb (x))) ∧ hp' = hp) := by
  refine z_M.of (lv0 := [(0, .ref (base + 0)), (1, .int (x)), (2, .int (y))]) (by decide) (Nat.le_of_ble_eq_true rfl) rfl ?_
  intro p e s m below meth c hmn hrt C
  refine z_aload_n C dX4_resize_0 rfl 0 rfl ?_
  refine z_iload_n C dX4_resize_1 rfl 1 rfl ?_
  refine z_callV (rest := []) C (m_X4_wrongBySize l G base sc td q nc cf pl S mem _ hC kt ko kb hX (x)) ml_X4_117 kw_X4_wrongBySize hC.1 rfl rfl rfl (by simp [Value.category]) dX4_resize_2 (by decide) (by decide) (by decide) (by decide) ?_
  rintro _ h9 ⟨rfl, e9⟩
  replace e9 := e9.symm
  subst e9
  refine z_st (st' := [.int (c_ws q S kt kb (x))]) rfl ?_
  refine z_istore_n (lv' := [(3, .int (c_ws q S kt kb (x))), (0, .ref (base + 0)), (1, .int (x)), (2, .int (y))]) C dX4_resize_5 rfl (by decide) rfl ?_
  refine z_iload_n C dX4_resize_6 rfl 0 rfl ?_
  refine z_if_eq (tgt := 12) C dX4_resize_7 (by decide) (fun h7 => absurd h7 (hw)) (fun h7 => ?_)
  refine z_iload_n C dX4_resize_10 rfl 0 rfl ?_
  exact z_iret C hrt rfl dX4_resize_11 (by decide) (by decide) (⟨rfl, rfl⟩)

set_option maxHeartbeats 4000000 in
set_option maxRecDepth 100000 in
theorem m_X4_resize_3 (l : Launch) (G : z_G) (base : Nat) (sc td : Nat → Int32) (q : q_T) (nc : Nat) (cf : Nat → Nat → Int32) (pl : Nat → Nat) (S : Nat → Option s_T) (mem : Nat → Nat) (hp : List va_E) (hC : C_ok G base sc td q nc cf pl S mem hp) (kt ko kb : Nat → Nat) (hX : X_ok nc q cf S kt ko kb) (x y : Int32) (hw : c_ws q S kt kb x = 0) (hy : ¬ (1 ≤ y ∧ y ≤ 4096)) : z_M l G base yX4_resize cX4_resize 7 (some .int) 6 2 68 [.ref (base + 0), .int (x), .int (y)] hp (fun v hp' => v = some (.int (-1)) ∧ hp' = hp) := by
  refine z_M.of (lv0 := [(0, .ref (base + 0)), (1, .int (x)), (2, .int (y))]) (by decide) (Nat.le_of_ble_eq_true rfl) rfl ?_
  intro p e s m below meth c hmn hrt C
  refine z_aload_n C dX4_resize_0 rfl 0 rfl ?_
  refine z_iload_n C dX4_resize_1 rfl 1 rfl ?_
  refine z_callV (rest := []) C (m_X4_wrongBySize l G base sc td q nc cf pl S mem _ hC kt ko kb hX (x)) ml_X4_117 kw_X4_wrongBySize hC.1 rfl rfl rfl (by simp [Value.category]) dX4_resize_2 (by decide) (by decide) (by decide) (by decide) ?_
  rintro _ h9 ⟨rfl, e9⟩
  replace e9 := e9.symm
  subst e9
  refine z_st (st' := [.int (c_ws q S kt kb (x))]) rfl ?_
  refine z_casti (y := (0 : Int32)) (hw) ?_
  refine z_istore_n (lv' := [(3, .int ((0 : Int32))), (0, .ref (base + 0)), (1, .int (x)), (2, .int (y))]) C dX4_resize_5 rfl (by decide) rfl ?_
  refine z_iload_n C dX4_resize_6 rfl 0 rfl ?_
  refine z_if_eq (tgt := 12) C dX4_resize_7 (by decide) (fun h7 => ?_) (fun h7 => absurd h7 (by decide))
  refine z_iload_n C dX4_resize_12 rfl 3 rfl ?_
  refine z_callS (rest := []) C (m_X4_isBySize l G base _ (y)) ml_X4_108 kw_X4_isBySize rfl rfl (by simp [Value.category]) dX4_resize_13 (by decide) (by decide) (by decide) (by decide) ?_
  rintro _ h9 ⟨rfl, e9⟩
  replace e9 := e9.symm
  subst e9
  refine z_st (st' := [.int ((bI (decide (1 ≤ y ∧ y ≤ 4096))))]) rfl ?_
  refine z_if_ne (tgt := 21) C dX4_resize_16 (by decide) (fun h16 => absurd h16 (fun z => hy (bI_ne z))) (fun h16 => ?_)
  refine z_iconst (v := -1) C dX4_resize_19 (by decide) ?_
  exact z_iret C hrt rfl dX4_resize_20 (by decide) (by decide) (⟨rfl, rfl⟩)

set_option maxHeartbeats 4000000 in
set_option maxRecDepth 100000 in
theorem m_X4_resize_4 (l : Launch) (G : z_G) (base : Nat) (sc td : Nat → Int32) (q : q_T) (nc : Nat) (cf : Nat → Nat → Int32) (pl : Nat → Nat) (S : Nat → Option s_T) (mem : Nat → Nat) (hp : List va_E) (hC : C_ok G base sc td q nc cf pl S mem hp) (kt ko kb : Nat → Nat) (hX : X_ok nc q cf S kt ko kb) (a P : Nat) (hG : H_gbs q S kt kb a P) (hw : c_ws q S kt kb (nI a) = 0) (b : Nat) (hb : 1 ≤ b) (hb2 : b ≤ 4096) (hk : c_ka q P = k_kf b 12 0) : z_M l G base yX4_resize cX4_resize 7 (some .int) 6 2 68 [.ref (base + 0), .int (nI a), .int (nI b)] hp (fun v hp' => v = some (.int (nI a)) ∧ hp' = hp) := by
  refine z_M.of (lv0 := [(0, .ref (base + 0)), (1, .int (nI a)), (2, .int (nI b))]) (by decide) (Nat.le_of_ble_eq_true rfl) rfl ?_
  intro p e s m below meth c hmn hrt C
  have hka := c_ka_le hX hG
  refine z_aload_n C dX4_resize_0 rfl 0 rfl ?_
  refine z_iload_n C dX4_resize_1 rfl 1 rfl ?_
  refine z_callV (rest := []) C (m_X4_wrongBySize l G base sc td q nc cf pl S mem _ hC kt ko kb hX (nI a)) ml_X4_117 kw_X4_wrongBySize hC.1 rfl rfl rfl (by simp [Value.category]) dX4_resize_2 (by decide) (by decide) (by decide) (by decide) ?_
  rintro _ h9 ⟨rfl, e9⟩
  replace e9 := e9.symm
  subst e9
  refine z_st (st' := [.int (c_ws q S kt kb (nI a))]) rfl ?_
  refine z_casti (y := (0 : Int32)) (hw) ?_
  refine z_istore_n (lv' := [(3, .int ((0 : Int32))), (0, .ref (base + 0)), (1, .int (nI a)), (2, .int (nI b))]) C dX4_resize_5 rfl (by decide) rfl ?_
  refine z_iload_n C dX4_resize_6 rfl 0 rfl ?_
  refine z_if_eq (tgt := 12) C dX4_resize_7 (by decide) (fun h7 => ?_) (fun h7 => absurd h7 (by decide))
  refine z_iload_n C dX4_resize_12 rfl 3 rfl ?_
  refine z_callS (rest := []) C (m_X4_isBySize l G base _ (nI b)) ml_X4_108 kw_X4_isBySize rfl rfl (by simp [Value.category]) dX4_resize_13 (by decide) (by decide) (by decide) (by decide) ?_
  rintro _ h9 ⟨rfl, e9⟩
  replace e9 := e9.symm
  subst e9
  refine z_st (st' := [.int ((bI (decide (1 ≤ nI b ∧ nI b ≤ 4096))))]) rfl ?_
  refine z_if_ne (tgt := 21) C dX4_resize_16 (by decide) (fun h16 => ?_) (fun h16 => absurd h16 (fun z => bI_eq z ⟨nI_le (a := 1) hb (by omega), nI_le (b := 4096) hb2 (by decide)⟩))
  refine z_aload_n C dX4_resize_21 rfl 1 rfl ?_
  refine z_iload_n C dX4_resize_22 rfl 2 rfl ?_
  refine z_callV (rest := []) C (m_X4_kindAt l G base sc td q nc cf pl S mem _ hC kt ko kb hX a P hG.1 hG.2.1 hG.2.2.1 hG.2.2.2.1) ml_X4_120 kw_X4_kindAt hC.1 rfl rfl rfl (by simp [Value.category]) dX4_resize_23 (by decide) (by decide) (by decide) (by decide) ?_
  rintro _ h9 ⟨rfl, e9⟩
  replace e9 := e9.symm
  subst e9
  refine z_st (st' := [.int (nI (c_ka q P))]) rfl ?_
  refine z_casti (y := nI (c_ka q P)) (rfl) ?_
  refine z_istore (lv' := [(4, .int (nI (c_ka q P))), (3, .int ((0 : Int32))), (0, .ref (base + 0)), (1, .int (nI a)), (2, .int (nI b))]) C dX4_resize_26 (by decide) rfl ?_
  refine z_iload_n C dX4_resize_28 rfl 4 rfl ?_
  refine z_callS (rest := []) C (m_X4_kindFor l G base _ b (by omega)) ml_X4_111 kw_X4_kindFor rfl rfl (by simp [Value.category]) dX4_resize_29 (by decide) (by decide) (by decide) (by decide) ?_
  rintro _ h9 ⟨rfl, e9⟩
  replace e9 := e9.symm
  subst e9
  refine z_st (st' := [.int (nI (k_kf b 12 0))]) rfl ?_
  refine z_istore (lv' := [(5, .int (nI (k_kf b 12 0))), (4, .int (nI (c_ka q P))), (3, .int ((0 : Int32))), (0, .ref (base + 0)), (1, .int (nI a)), (2, .int (nI b))]) C dX4_resize_32 (by decide) rfl ?_
  refine z_iload C dX4_resize_34 1 rfl ?_
  refine z_iload C dX4_resize_36 0 rfl ?_
  refine z_icmp_ne (tgt := 43) C dX4_resize_38 (by decide) (fun h38 => absurd h38 (fun z => z (by rw [hk]))) (fun h38 => ?_)
  refine z_iload_n C dX4_resize_41 rfl 4 rfl ?_
  exact z_iret C hrt rfl dX4_resize_42 (by decide) (by decide) (⟨rfl, rfl⟩)

set_option maxHeartbeats 4000000 in
set_option maxRecDepth 100000 in
theorem m_X4_resize (l : Launch) (G : z_G) (base : Nat) (sc td : Nat → Int32) (q : q_T) (nc : Nat) (cf : Nat → Nat → Int32) (pl : Nat → Nat) (S : Nat → Option s_T) (mem : Nat → Nat) (hp : List va_E) (hC : C_ok G base sc td q nc cf pl S mem hp) (kt ko kb : Nat → Nat) (hX : X_ok nc q cf S kt ko kb) (a P : Nat) (hG : H_gbs q S kt kb a P) (hw : c_ws q S kt kb (nI a) = 0) (b : Nat) (hb : 1 ≤ b) (hb2 : b ≤ 4096) (hk : ¬ c_ka q P = k_kf b 12 0) (ha8 : a % 8 = 0) (hax : a + min (k_bytes (c_ka q P)) b ≤ 16384) (hR : ∀ x' sc' q' cf' S', T_kind kt ko kb sc q cf S (k_kf b 12 0) x' sc' q' cf' S' → x' = -1 ∨ ∃ t, x' = nI t ∧ t % 8 = 0 ∧ t + min (k_bytes (c_ka q P)) b ≤ 16384 ∧ (a + min (k_bytes (c_ka q P)) b ≤ t ∨ t + min (k_bytes (c_ka q P)) b ≤ a) ∧ X_ok nc q' cf' S' kt ko kb ∧ H_gbs q' S' kt kb a P) : z_M l G base yX4_resize cX4_resize 7 (some .int) 6 2 68 [.ref (base + 0), .int (nI a), .int (nI b)] hp (fun v hp' => ∃ x' sc' q' cf' S', T_kind kt ko kb sc q cf S (k_kf b 12 0) x' sc' q' cf' S' ∧ C_fr hp hp' ∧ v = some (.int x') ∧ ((x' = -1 ∧ C_ok G base sc' td q' nc cf' pl S' mem hp') ∨ ∃ t sc2 q2 cf2 S2, x' = nI t ∧ t ≤ 16384 ∧ T_gbs kt kb sc' q' cf' S' a P sc2 q2 cf2 S2 ∧ C_ok G base sc2 td q2 nc cf2 pl S2 (q_cpm mem a t (min (k_bytes (c_ka q P)) b)) hp')) := by
  refine z_M.of (lv0 := [(0, .ref (base + 0)), (1, .int (nI a)), (2, .int (nI b))]) (by decide) (Nat.le_of_ble_eq_true rfl) rfl ?_
  intro p e s m below meth c hmn hrt C
  have hka := c_ka_le hX hG
  have hkb := k_bytes_le hka
  have hkn := k_kf_le (b := b)
  refine z_aload_n C dX4_resize_0 rfl 0 rfl ?_
  refine z_iload_n C dX4_resize_1 rfl 1 rfl ?_
  refine z_callV (rest := []) C (m_X4_wrongBySize l G base sc td q nc cf pl S mem _ hC kt ko kb hX (nI a)) ml_X4_117 kw_X4_wrongBySize hC.1 rfl rfl rfl (by simp [Value.category]) dX4_resize_2 (by decide) (by decide) (by decide) (by decide) ?_
  rintro _ h9 ⟨rfl, e9⟩
  replace e9 := e9.symm
  subst e9
  refine z_st (st' := [.int (c_ws q S kt kb (nI a))]) rfl ?_
  refine z_casti (y := (0 : Int32)) (hw) ?_
  refine z_istore_n (lv' := [(3, .int ((0 : Int32))), (0, .ref (base + 0)), (1, .int (nI a)), (2, .int (nI b))]) C dX4_resize_5 rfl (by decide) rfl ?_
  refine z_iload_n C dX4_resize_6 rfl 0 rfl ?_
  refine z_if_eq (tgt := 12) C dX4_resize_7 (by decide) (fun h7 => ?_) (fun h7 => absurd h7 (by decide))
  refine z_iload_n C dX4_resize_12 rfl 3 rfl ?_
  refine z_callS (rest := []) C (m_X4_isBySize l G base _ (nI b)) ml_X4_108 kw_X4_isBySize rfl rfl (by simp [Value.category]) dX4_resize_13 (by decide) (by decide) (by decide) (by decide) ?_
  rintro _ h9 ⟨rfl, e9⟩
  replace e9 := e9.symm
  subst e9
  refine z_st (st' := [.int ((bI (decide (1 ≤ nI b ∧ nI b ≤ 4096))))]) rfl ?_
  refine z_if_ne (tgt := 21) C dX4_resize_16 (by decide) (fun h16 => ?_) (fun h16 => absurd h16 (fun z => bI_eq z ⟨nI_le (a := 1) hb (by omega), nI_le (b := 4096) hb2 (by decide)⟩))
  refine z_aload_n C dX4_resize_21 rfl 1 rfl ?_
  refine z_iload_n C dX4_resize_22 rfl 2 rfl ?_
  refine z_callV (rest := []) C (m_X4_kindAt l G base sc td q nc cf pl S mem _ hC kt ko kb hX a P hG.1 hG.2.1 hG.2.2.1 hG.2.2.2.1) ml_X4_120 kw_X4_kindAt hC.1 rfl rfl rfl (by simp [Value.category]) dX4_resize_23 (by decide) (by decide) (by decide) (by decide) ?_
  rintro _ h9 ⟨rfl, e9⟩
  replace e9 := e9.symm
  subst e9
  refine z_st (st' := [.int (nI (c_ka q P))]) rfl ?_
  refine z_istore (lv' := [(4, .int (nI (c_ka q P))), (3, .int ((0 : Int32))), (0, .ref (base + 0)), (1, .int (nI a)), (2, .int (nI b))]) C dX4_resize_26 (by decide) rfl ?_
  refine z_iload_n C dX4_resize_28 rfl 4 rfl ?_
  refine z_callS (rest := []) C (m_X4_kindFor l G base _ b (by omega)) ml_X4_111 kw_X4_kindFor rfl rfl (by simp [Value.category]) dX4_resize_29 (by decide) (by decide) (by decide) (by decide) ?_
  rintro _ h9 ⟨rfl, e9⟩
  replace e9 := e9.symm
  subst e9
  refine z_st (st' := [.int (nI (k_kf b 12 0))]) rfl ?_
  refine z_istore (lv' := [(5, .int (nI (k_kf b 12 0))), (4, .int (nI (c_ka q P))), (3, .int ((0 : Int32))), (0, .ref (base + 0)), (1, .int (nI a)), (2, .int (nI b))]) C dX4_resize_32 (by decide) rfl ?_
  refine z_iload C dX4_resize_34 1 rfl ?_
  refine z_iload C dX4_resize_36 0 rfl ?_
  refine z_icmp_ne (tgt := 43) C dX4_resize_38 (by decide) (fun h38 => ?_) (fun h38 => absurd h38 (fun z => hk ((nI_eq (by omega) (by omega)).mp z)))
  refine z_aload_n C dX4_resize_43 rfl 3 rfl ?_
  refine z_iload C dX4_resize_44 0 rfl ?_
  refine z_callV (rest := []) C (m_X4_takeKind l G base sc td q nc cf pl S mem _ hC kt ko kb hX (k_kf b 12 0) k_kf_le) ml_X4_114 kw_X4_takeKind hC.1 rfl rfl rfl (by simp [Value.category]) dX4_resize_46 (by decide) (by decide) (by decide) (by decide) ?_
  rintro _ hp3 ⟨x3, sc3, q3, cf3, S3, rfl, hT3, hC3, hF3⟩
  refine z_st (st' := [.int (x3)]) rfl ?_
  rcases hR _ _ _ _ _ hT3 with rfl | ⟨t, rfl, ht8, htx, hdis, hX3, hG3⟩
  · skip
    refine z_istore (lv' := [(6, .int ((-1 : Int32))), (5, .int (nI (k_kf b 12 0))), (4, .int (nI (c_ka q P))), (3, .int ((0 : Int32))), (0, .ref (base + 0)), (1, .int (nI a)), (2, .int (nI b))]) C dX4_resize_49 (by decide) rfl ?_
    refine z_iload C dX4_resize_51 0 rfl ?_
    refine z_iconst (v := -1) C dX4_resize_53 (by decide) ?_
    refine z_icmp_ne (tgt := 59) C dX4_resize_54 (by decide) (fun h54 => absurd h54 (by decide)) (fun h54 => ?_)
    refine z_iconst (v := -1) C dX4_resize_57 (by decide) ?_
    exact z_iret C hrt rfl dX4_resize_58 (by decide) (by decide) (⟨_, _, _, _, _, hT3, hF3, rfl, Or.inl ⟨rfl, hC3⟩⟩)
  · skip
    obtain ⟨fm, hfm, hmb⟩ := hC3.2.2.1
    refine z_istore (lv' := [(6, .int (nI t)), (5, .int (nI (k_kf b 12 0))), (4, .int (nI (c_ka q P))), (3, .int ((0 : Int32))), (0, .ref (base + 0)), (1, .int (nI a)), (2, .int (nI b))]) C dX4_resize_49 (by decide) rfl ?_
    refine z_iload C dX4_resize_51 0 rfl ?_
    refine z_iconst (v := -1) C dX4_resize_53 (by decide) ?_
    refine z_icmp_ne (tgt := 59) C dX4_resize_54 (by decide) (fun h54 => ?_) (fun h54 => absurd h54 (nI_m1 (by omega)))
    refine z_aload_n C dX4_resize_59 rfl 4 rfl ?_
    refine z_get C fl_X4_12 dX4_resize_60 hC3.1 rfl ?_
    refine z_iload_n C dX4_resize_63 rfl 5 rfl ?_
    refine z_iload C dX4_resize_64 0 rfl ?_
    refine z_iload C dX4_resize_66 2 rfl ?_
    refine z_callS (rest := [.int (nI t), .int (nI a), .ref (base + 1)]) C (m_X4_bytesOfKind l G base _ (c_ka q P) hka) ml_X4_123 kw_X4_bytesOfKind rfl rfl (by simp [Value.category]) dX4_resize_68 (by decide) (by decide) (by decide) (by decide) ?_
    rintro _ h9 ⟨rfl, e9⟩
    replace e9 := e9.symm
    subst e9
    refine z_st (st' := [.int (nI (k_bytes (c_ka q P))), .int (nI t), .int (nI a), .ref (base + 1)]) rfl ?_
    refine z_iload_n C dX4_resize_71 rfl 6 rfl ?_
    refine z_mmin C ml_X4_35 st_min in_J9 kc_min dX4_resize_72 (by decide) (Nat.le_of_ble_eq_true rfl) (by decide) (by decide) ?_
    refine z_casti (y := nI (min (k_bytes (c_ka q P)) b)) (min_nI (by omega) (by omega)) ?_
    refine z_callV (rest := []) C (m_X2_copy l G base _ fm mem hC3.2.1 hfm hmb a t (min (k_bytes (c_ka q P)) b) ha8 ht8 hax htx hdis) ml_X4_129 kw_X2_copy hC3.2.1 rfl rfl rfl (by simp [Value.category]) dX4_resize_75 (by decide) (by decide) (by decide) (by decide) ?_
    rintro _ _ ⟨rfl, f4, hm4, rfl⟩
    have hC4 := hC3.setm hm4
    refine z_st (st' := []) rfl ?_
    refine z_aload_n C dX4_resize_78 rfl 4 rfl ?_
    refine z_iload_n C dX4_resize_79 rfl 5 rfl ?_
    refine z_callV (rest := []) C (m_X4_giveBySize l G base sc3 td q3 nc cf3 pl S3 _ _ hC4 kt ko kb hX3 a P hG3) ml_X4_126 kw_X4_giveBySize hC4.1 rfl rfl rfl (by simp [Value.category]) dX4_resize_80 (by decide) (by decide) (by decide) (by decide) ?_
    rintro _ hp5 ⟨rfl, sc5, q5, cf5, S5, hT5, hC5, hF5⟩
    refine z_st (st' := []) rfl ?_
    refine z_iload C dX4_resize_83 0 rfl ?_
    exact z_iret C hrt rfl dX4_resize_85 (by decide) (by decide) (⟨_, _, _, _, _, hT3, (hF3.set (Or.inl (by decide))).tr hF5, rfl, Or.inr ⟨t, _, _, _, _, rfl, by omega, hT5, hC5⟩⟩)

set_option maxHeartbeats 4000000 in
set_option maxRecDepth 100000 in
theorem m_X4_read (l : Launch) (G : z_G) (base : Nat) (sc td : Nat → Int32) (q : q_T) (nc : Nat) (cf : Nat → Nat → Int32) (pl : Nat → Nat) (S : Nat → Option s_T) (mem : Nat → Nat) (hp : List va_E) (hC : C_ok G base sc td q nc cf pl S mem hp) (x : Int32) : z_M l G base yX4_read cX4_read 2 (some .int) 2 0 0 [.ref (base + 0), .int (x)] hp (fun v hp' => v = some (.int (c_rdA mem (x))) ∧ hp' = hp) := by
  refine z_M.of (lv0 := [(0, .ref (base + 0)), (1, .int (x))]) (by decide) (Nat.le_of_ble_eq_true rfl) rfl ?_
  intro p e s m below meth c hmn hrt C
  obtain ⟨fm, hfm, hmb⟩ := hC.2.2.1
  refine z_iload_n C dX4_read_0 rfl 1 rfl ?_
  refine z_callS (rest := []) C (m_X4_isAddress l G base _ (x)) ml_X4_132 kw_X4_isAddress rfl rfl (by simp [Value.category]) dX4_read_1 (by decide) (by decide) (by decide) (by decide) ?_
  rintro _ h9 ⟨rfl, e9⟩
  replace e9 := e9.symm
  subst e9
  refine z_st (st' := [.int ((bI (decide (0 ≤ x ∧ x < 16384))))]) rfl ?_
  refine z_if_eq (tgt := 18) C dX4_read_4 (by decide) (fun h4 => ?_) (fun h4 => ?_)
  · skip
    refine z_iconst (v := -1) C dX4_read_18 (by decide) ?_
    exact z_iret C hrt rfl dX4_read_19 (by decide) (by decide) (⟨by unfold c_rdA; rw [if_neg (bI_eq h4)], rfl⟩)
  · skip
    have hxx := bI_ne h4
    obtain ⟨a, ha, rfl⟩ := ad_of hxx
    refine z_aload_n C dX4_read_7 rfl 0 rfl ?_
    refine z_get C fl_X4_12 dX4_read_8 hC.1 rfl ?_
    refine z_iload_n C dX4_read_11 rfl 1 rfl ?_
    refine z_callV (rest := []) C (m_X2_get l G base _ fm mem hC.2.1 hfm hmb a ha) ml_X4_135 kw_X2_get hC.2.1 rfl rfl rfl (by simp [Value.category]) dX4_read_12 (by decide) (by decide) (by decide) (by decide) ?_
    rintro _ h9 ⟨rfl, e9⟩
    replace e9 := e9.symm
    subst e9
    refine z_st (st' := [.int (nI (mem a))]) rfl ?_
    refine z_goto (tgt := 19) C dX4_read_15 (by decide) ?_
    exact z_iret C hrt rfl dX4_read_19 (by decide) (by decide) (⟨by unfold c_rdA; rw [if_pos hxx, nI_clamp (by omega)], rfl⟩)

set_option maxHeartbeats 4000000 in
set_option maxRecDepth 100000 in
theorem m_X4_write (l : Launch) (G : z_G) (base : Nat) (sc td : Nat → Int32) (q : q_T) (nc : Nat) (cf : Nat → Nat → Int32) (pl : Nat → Nat) (S : Nat → Option s_T) (mem : Nat → Nat) (hp : List va_E) (hC : C_ok G base sc td q nc cf pl S mem hp) (a : Nat) (ha : a < 16384) (y : Int32) : z_M l G base yX4_write cX4_write 4 (some .int) 2 0 0 [.ref (base + 0), .int (nI a), .int (y)] hp (fun v hp' => v = some (.int (nI (mem a))) ∧ C_ok G base (sc) (td) (q) (nc) (cf) pl (S) (va_up mem a (y.toBitVec.toNat % 256)) hp' ∧ C_fr hp hp') := by
  refine z_M.of (lv0 := [(0, .ref (base + 0)), (1, .int (nI a)), (2, .int (y))]) (by decide) (Nat.le_of_ble_eq_true rfl) rfl ?_
  intro p e s m below meth c hmn hrt C
  obtain ⟨fm, hfm, hmb⟩ := hC.2.2.1
  refine z_iload_n C dX4_write_0 rfl 1 rfl ?_
  refine z_callS (rest := []) C (m_X4_isAddress l G base _ (nI a)) ml_X4_132 kw_X4_isAddress rfl rfl (by simp [Value.category]) dX4_write_1 (by decide) (by decide) (by decide) (by decide) ?_
  rintro _ h9 ⟨rfl, e9⟩
  replace e9 := e9.symm
  subst e9
  refine z_st (st' := [.int ((bI (decide (0 ≤ nI a ∧ nI a < 16384))))]) rfl ?_
  refine z_if_ne (tgt := 9) C dX4_write_4 (by decide) (fun h4 => ?_) (fun h4 => absurd h4 (fun z => bI_eq z (ad_in ha)))
  refine z_aload_n C dX4_write_9 rfl 0 rfl ?_
  refine z_get C fl_X4_12 dX4_write_10 hC.1 rfl ?_
  refine z_iload_n C dX4_write_13 rfl 1 rfl ?_
  refine z_callV (rest := []) C (m_X2_get l G base _ fm mem hC.2.1 hfm hmb a ha) ml_X4_135 kw_X2_get hC.2.1 rfl rfl rfl (by simp [Value.category]) dX4_write_14 (by decide) (by decide) (by decide) (by decide) ?_
  rintro _ h9 ⟨rfl, e9⟩
  replace e9 := e9.symm
  subst e9
  refine z_st (st' := [.int (nI (mem a))]) rfl ?_
  refine z_istore_n (lv' := [(3, .int (nI (mem a))), (0, .ref (base + 0)), (1, .int (nI a)), (2, .int (y))]) C dX4_write_17 rfl (by decide) rfl ?_
  refine z_aload_n C dX4_write_18 rfl 1 rfl ?_
  refine z_get C fl_X4_12 dX4_write_19 hC.1 rfl ?_
  refine z_iload_n C dX4_write_22 rfl 2 rfl ?_
  refine z_iload_n C dX4_write_23 rfl 3 rfl ?_
  refine z_callV (rest := []) C (m_X2_put l G base _ fm mem hC.2.1 hfm hmb a ha y) ml_X4_138 kw_X2_put hC.2.1 rfl rfl rfl (by simp [Value.category]) dX4_write_24 (by decide) (by decide) (by decide) (by decide) ?_
  rintro _ _ ⟨rfl, f4, hm4, rfl⟩
  have hC4 := hC.setm hm4
  refine z_st (st' := []) rfl ?_
  refine z_iload_n C dX4_write_27 rfl 0 rfl ?_
  exact z_iret C hrt rfl dX4_write_28 (by decide) (by decide) (⟨rfl, hC4, (C_fr.rf hp).set (Or.inl (by decide))⟩)

set_option maxHeartbeats 4000000 in
set_option maxRecDepth 100000 in
theorem m_X4_write_2 (l : Launch) (G : z_G) (base : Nat) (sc td : Nat → Int32) (q : q_T) (nc : Nat) (cf : Nat → Nat → Int32) (pl : Nat → Nat) (S : Nat → Option s_T) (mem : Nat → Nat) (hp : List va_E) (hC : C_ok G base sc td q nc cf pl S mem hp) (x y : Int32) (hx : ¬ (0 ≤ x ∧ x < 16384)) : z_M l G base yX4_write cX4_write 4 (some .int) 2 0 0 [.ref (base + 0), .int (x), .int (y)] hp (fun v hp' => v = some (.int (-1)) ∧ hp' = hp) := by
  refine z_M.of (lv0 := [(0, .ref (base + 0)), (1, .int (x)), (2, .int (y))]) (by decide) (Nat.le_of_ble_eq_true rfl) rfl ?_
  intro p e s m below meth c hmn hrt C
  refine z_iload_n C dX4_write_0 rfl 1 rfl ?_
  refine z_callS (rest := []) C (m_X4_isAddress l G base _ (x)) ml_X4_132 kw_X4_isAddress rfl rfl (by simp [Value.category]) dX4_write_1 (by decide) (by decide) (by decide) (by decide) ?_
  rintro _ h9 ⟨rfl, e9⟩
  replace e9 := e9.symm
  subst e9
  refine z_st (st' := [.int ((bI (decide (0 ≤ x ∧ x < 16384))))]) rfl ?_
  refine z_if_ne (tgt := 9) C dX4_write_4 (by decide) (fun h4 => absurd h4 (fun z => hx (bI_ne z))) (fun h4 => ?_)
  refine z_iconst (v := -1) C dX4_write_7 (by decide) ?_
  exact z_iret C hrt rfl dX4_write_8 (by decide) (by decide) (⟨rfl, rfl⟩)

set_option maxHeartbeats 4000000 in
set_option maxRecDepth 100000 in
theorem m_X4_arm (l : Launch) (G : z_G) (base : Nat) (sc td : Nat → Int32) (q : q_T) (nc : Nat) (cf : Nat → Nat → Int32) (pl : Nat → Nat) (S : Nat → Option s_T) (mem : Nat → Nat) (hp : List va_E) (hC : C_ok G base sc td q nc cf pl S mem hp) (x : Int32) (hx : 0 ≤ x ∧ x ≤ 100) : z_M l G base yX4_arm cX4_arm 2 (some .boolean) 0 0 0 [.ref (base + 0), .int (x)] hp (fun v hp' => v = some (.int (1)) ∧ C_ok G base (upd sc 7 x) (td) (q) (nc) (cf) pl (S) (mem) hp' ∧ C_fr hp hp') := by
  refine z_M.of (lv0 := [(0, .ref (base + 0)), (1, .int (x))]) (by decide) (Nat.le_of_ble_eq_true rfl) rfl ?_
  intro p e s m below meth c hmn hrt C
  refine z_iload_n C dX4_arm_0 rfl 1 rfl ?_
  refine z_if_lt (tgt := 10) C dX4_arm_1 (by decide) (fun h1 => absurd h1 (Int32.not_lt.mpr hx.1)) (fun h1 => ?_)
  refine z_iload_n C dX4_arm_4 rfl 1 rfl ?_
  refine z_bipush (v := 100) C dX4_arm_5 (by decide) ?_
  refine z_icmp_le (tgt := 12) C dX4_arm_7 (by decide) (fun h7 => ?_) (fun h7 => absurd h7 (fun z => z hx.2))
  refine z_aload_n C dX4_arm_12 rfl 0 rfl ?_
  refine z_get C fl_X4_19 dX4_arm_13 hC.1 rfl ?_
  refine z_iload_n C dX4_arm_16 rfl 1 rfl ?_
  refine z_put C fl_X4_141 fp_X0 rfl dX4_arm_17 hC.2.2.2.1.1 (by simp) rfl rfl ?_
  refine z_iconst (v := 1) C dX4_arm_20 (by decide) ?_
  exact z_iret C hrt rfl dX4_arm_21 (by decide) (by decide) (⟨rfl, hC.setsc (sc' := upd sc 7 x), (C_fr.rf hp).set (Or.inl (by decide))⟩)

set_option maxHeartbeats 4000000 in
set_option maxRecDepth 100000 in
theorem m_X4_arm_2 (l : Launch) (G : z_G) (base : Nat) (sc td : Nat → Int32) (q : q_T) (nc : Nat) (cf : Nat → Nat → Int32) (pl : Nat → Nat) (S : Nat → Option s_T) (mem : Nat → Nat) (hp : List va_E) (hC : C_ok G base sc td q nc cf pl S mem hp) (x : Int32) (hx : ¬ (0 ≤ x ∧ x ≤ 100)) : z_M l G base yX4_arm cX4_arm 2 (some .boolean) 0 0 0 [.ref (base + 0), .int (x)] hp (fun v hp' => v = some (.int (0)) ∧ hp' = hp) := by
  refine z_M.of (lv0 := [(0, .ref (base + 0)), (1, .int (x))]) (by decide) (Nat.le_of_ble_eq_true rfl) rfl ?_
  intro p e s m below meth c hmn hrt C
  refine z_iload_n C dX4_arm_0 rfl 1 rfl ?_
  refine z_if_lt (tgt := 10) C dX4_arm_1 (by decide) (fun h1 => ?_) (fun h1 => ?_)
  · skip
    refine z_iconst (v := 0) C dX4_arm_10 (by decide) ?_
    exact z_iret C hrt rfl dX4_arm_11 (by decide) (by decide) (⟨rfl, rfl⟩)
  · skip
    refine z_iload_n C dX4_arm_4 rfl 1 rfl ?_
    refine z_bipush (v := 100) C dX4_arm_5 (by decide) ?_
    refine z_icmp_le (tgt := 12) C dX4_arm_7 (by decide) (fun h7 => ?_) (fun h7 => ?_)
    · skip
      exact absurd ⟨Int32.not_lt.mp h1, h7⟩ hx
    · skip
      refine z_iconst (v := 0) C dX4_arm_10 (by decide) ?_
      exact z_iret C hrt rfl dX4_arm_11 (by decide) (by decide) (⟨rfl, rfl⟩)
