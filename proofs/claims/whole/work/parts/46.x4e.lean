set_option maxHeartbeats 4000000 in
set_option maxRecDepth 100000 in
theorem m_X4_bytesOfKind (l : Launch) (G : z_G) (base : Nat) (hp : List va_E) (k : Nat) (hk : k ≤ 12) : z_M l G base yX4_bytesOfKind cX4_bytesOfKind 1 (some .int) 0 0 0 [.int (nI k)] hp (fun v hp' => v = some (.int (nI (k_bytes k))) ∧ hp' = hp) := by
  refine z_M.of (lv0 := [(0, .int (nI k))]) (by decide) (Nat.le_of_ble_eq_true rfl) rfl ?_
  intro p e s m below meth c hmn hrt C
  refine z_iload_n C dX4_bytesOfKind_0 rfl 0 rfl ?_
  refine z_bipush (v := 6) C dX4_bytesOfKind_1 (by decide) ?_
  refine z_icmp_ge (tgt := 13) C dX4_bytesOfKind_3 (by decide) (fun h3 => ?_) (fun h3 => ?_)
  · skip
    have h6 : 6 ≤ k := by
      rcases Nat.lt_or_ge k 6 with z | z
      · exact absurd h3 (nI_ge z (by decide))
      · exact z
    refine z_bipush (v := 64) C dX4_bytesOfKind_13 (by decide) ?_
    refine z_iload_n C dX4_bytesOfKind_15 rfl 0 rfl ?_
    refine z_bipush (v := 6) C dX4_bytesOfKind_16 (by decide) ?_
    refine z_isub C dX4_bytesOfKind_18 ?_
    refine z_casti (y := nI (k - 6)) (pk_sub (b := 6) h6) ?_
    refine z_ishl C dX4_bytesOfKind_19 ?_
    refine z_casti (y := nI (64 * 2 ^ (k - 6))) (nI_64 (k - 6) (by omega)) ?_
    exact z_iret C hrt rfl dX4_bytesOfKind_20 (by decide) (by decide) (⟨by unfold k_bytes; rw [if_neg (by omega)], rfl⟩)
  · skip
    have h6 : k < 6 := by
      rcases Nat.lt_or_ge k 6 with z | z
      · exact z
      · exact absurd (nI_le (a := 6) z (by omega)) h3
    refine z_bipush (v := 8) C dX4_bytesOfKind_6 (by decide) ?_
    refine z_iload_n C dX4_bytesOfKind_8 rfl 0 rfl ?_
    refine z_ishl C dX4_bytesOfKind_9 ?_
    refine z_casti (y := nI (8 * 2 ^ k)) (nI_8 k (by omega)) ?_
    refine z_goto (tgt := 20) C dX4_bytesOfKind_10 (by decide) ?_
    exact z_iret C hrt rfl dX4_bytesOfKind_20 (by decide) (by decide) (⟨by unfold k_bytes; rw [if_pos h6], rfl⟩)

set_option maxHeartbeats 4000000 in
set_option maxRecDepth 100000 in
theorem m_X4_kindFor (l : Launch) (G : z_G) (base : Nat) (hp : List va_E) (b : Nat) (hb : b < 65536) : z_M l G base yX4_kindFor cX4_kindFor 2 (some .int) 1 0 0 [.int (nI b)] hp (fun v hp' => v = some (.int (nI (k_kf b 12 0))) ∧ hp' = hp) := by
  refine z_M.of (lv0 := [(0, .int (nI b))]) (by decide) (Nat.le_of_ble_eq_true rfl) rfl ?_
  intro p e s m below meth c hmn hrt C
  refine z_iconst (v := 0) C dX4_kindFor_0 (by decide) ?_
  refine z_casti (y := nI 0) (rfl) ?_
  refine z_istore_n (lv' := [(1, .int (nI 0)), (0, .int (nI b))]) C dX4_kindFor_1 rfl (by decide) rfl ?_
  refine z_lv (lv' := [(1, .int (nI 0)), (0, .int (nI b))]) [0, 1] rfl ?_
  have loop : ∀ (n : Nat) (z : Nat), (z ≤ 12) → (13 ≤ n + z) → (k_kf b (12 - z) z = k_kf b 12 0) → z_R p l e (z_rm 1 0 0) s m ([Value.int (nI b)] : List Value).toArray below meth c (MQ below (z_Qc G base (fun v hp' => v = some (.int (nI (k_kf b 12 0))) ∧ hp' = hp)) ([Value.int (nI b)] : List Value).toArray s 0 0 (fun z => base ≤ z)) G base 2 0 0 2 [(1, .int (nI z)), (0, .int (nI b))] [] hp := by
    intro n
    induction n with
    | zero => intro z hz hn0 hv; exact absurd hn0 (by omega)
    | succ n ih =>
      intro z hz hn0 hv
      refine z_iload_n C dX4_kindFor_2 rfl 0 rfl ?_
      refine z_bipush (v := 12) C dX4_kindFor_3 (by decide) ?_
      refine z_icmp_ge (tgt := 22) C dX4_kindFor_5 (by decide) (fun h5 => ?_) (fun h5 => ?_)
      · skip
        have hend : ¬ (z < 12 ∧ k_bytes z < b) := fun q9 => absurd h5 (nI_ge q9.1 (by decide))
        refine z_iload_n C dX4_kindFor_22 rfl 0 rfl ?_
        exact z_iret C hrt rfl dX4_kindFor_23 (by decide) (by decide) (⟨by rw [← hv, k_kf_end hend], rfl⟩)
      · skip
        have h12 : z < 12 := by
          rcases Nat.lt_or_ge z 12 with q9 | q9
          · exact q9
          · exact absurd (nI_le (a := 12) q9 (by omega)) h5
        have hkb := k_bytes_le (k := z) (by omega)
        refine z_iload_n C dX4_kindFor_8 rfl 0 rfl ?_
        refine z_callS (rest := []) C (m_X4_bytesOfKind l G base _ z (by omega)) ml_X4_123 kw_X4_bytesOfKind rfl rfl (by simp [Value.category]) dX4_kindFor_9 (by decide) (by decide) (by decide) (by decide) ?_
        rintro _ h9 ⟨rfl, e9⟩
        replace e9 := e9.symm
        subst e9
        refine z_st (st' := [.int (nI (k_bytes z))]) rfl ?_
        refine z_iload_n C dX4_kindFor_12 rfl 1 rfl ?_
        refine z_icmp_ge (tgt := 22) C dX4_kindFor_13 (by decide) (fun h13 => ?_) (fun h13 => ?_)
        · skip
          have hend : ¬ (z < 12 ∧ k_bytes z < b) := fun q9 => absurd h13 (nI_ge q9.2 (by omega))
          refine z_iload_n C dX4_kindFor_22 rfl 0 rfl ?_
          exact z_iret C hrt rfl dX4_kindFor_23 (by decide) (by decide) (⟨by rw [← hv, k_kf_end hend], rfl⟩)
        · skip
          have hlt : k_bytes z < b := by
            rcases Nat.lt_or_ge (k_bytes z) b with q9 | q9
            · exact q9
            · exact absurd (nI_le q9 (by omega)) h13
          refine z_iinc (k := 0) (v := nI (z + 1)) (lv' := [(1, .int (nI (z + 1))), (0, .int (nI b))]) C dX4_kindFor_16 rfl (nI_1 z) (by decide) rfl ?_
          refine z_goto (tgt := 2) C dX4_kindFor_19 (by decide) ?_
          refine z_lv (lv' := [(1, .int (nI (z + 1))), (0, .int (nI b))]) [0, 1] rfl ?_
          exact ih (z + 1) (by omega) (by omega) (by rw [← hv]; exact (k_kf_go h12 hlt).symm)
  exact loop 13 0 (by omega) (by omega) rfl

set_option maxHeartbeats 4000000 in
set_option maxRecDepth 100000 in
theorem m_X4_kindAt (l : Launch) (G : z_G) (base : Nat) (sc td : Nat → Int32) (q : q_T) (nc : Nat) (cf : Nat → Nat → Int32) (pl : Nat → Nat) (S : Nat → Option s_T) (mem : Nat → Nat) (hp : List va_E) (hC : C_ok G base sc td q nc cf pl S mem hp) (kt ko kb : Nat → Nat) (hX : X_ok nc q cf S kt ko kb) (a P : Nat) (ha : a < 16384) (hP : P < 256) (hq1 : 1 ≤ q.1 P) (hfo : j_fo q.1 (nI (a / 64)) = some P) : z_M l G base yX4_kindAt cX4_kindAt 4 (some .int) 2 0 0 [.ref (base + 0), .int (nI a)] hp (fun v hp' => v = some (.int (nI (c_ka q P))) ∧ hp' = hp) := by
  refine z_M.of (lv0 := [(0, .ref (base + 0)), (1, .int (nI a))]) (by decide) (Nat.le_of_ble_eq_true rfl) rfl ?_
  intro p e s m below meth c hmn hrt C
  have hu := hX.u P
  have hq7 := hX.q P
  refine z_aload_n C dX4_kindAt_0 rfl 0 rfl ?_
  refine z_get C fl_X4_19 dX4_kindAt_1 hC.1 rfl ?_
  refine z_iload_n C dX4_kindAt_4 rfl 1 rfl ?_
  refine z_bipush (v := 64) C dX4_kindAt_5 (by decide) ?_
  refine z_idiv C dX4_kindAt_7 (by decide) ?_
  refine z_casti (y := nI (a / 64)) (pk_div (d := 64) (by omega) (by omega) (by decide)) ?_
  refine z_callV (rest := []) C (C_same hC (fun xs tl => m_X0_firstOf l G base xs sc td q tl hX.q (nI (a / 64)))) ml_X4_147 kw_X0_firstOf hC.2.2.2.1.1 rfl rfl rfl (by simp [Value.category]) dX4_kindAt_8 (by decide) (by decide) (by decide) (by decide) ?_
  rintro _ _ ⟨rfl, rfl⟩
  refine z_st (st' := [.int (oI (j_fo q.1 (nI (a / 64))))]) rfl ?_
  refine z_casti (y := nI P) (by rw [hfo]; rfl) ?_
  refine z_istore_n (lv' := [(2, .int (nI P)), (0, .ref (base + 0)), (1, .int (nI a))]) C dX4_kindAt_11 rfl (by decide) rfl ?_
  refine z_aload_n C dX4_kindAt_12 rfl 1 rfl ?_
  refine z_get C fl_X4_19 dX4_kindAt_13 hC.1 rfl ?_
  refine z_iload_n C dX4_kindAt_16 rfl 0 rfl ?_
  refine z_callV (rest := []) C (C_same hC (fun xs tl => m_X0_useFrom l G base xs sc td q tl hX.q (nI P))) ml_X4_150 kw_X0_useFrom hC.2.2.2.1.1 rfl rfl rfl (by simp [Value.category]) dX4_kindAt_17 (by decide) (by decide) (by decide) (by decide) ?_
  rintro _ _ ⟨rfl, rfl⟩
  refine z_st (st' := [.int (j_uf q.1 q.2.1 (nI P))]) rfl ?_
  refine z_casti (y := nI (q.2.1 P)) (j_uf_at hP (by omega)) ?_
  refine z_istore_n (lv' := [(3, .int (nI (q.2.1 P))), (2, .int (nI P)), (0, .ref (base + 0)), (1, .int (nI a))]) C dX4_kindAt_20 rfl (by decide) rfl ?_
  refine z_iload_n C dX4_kindAt_21 rfl 0 rfl ?_
  refine z_iconst (v := 2) C dX4_kindAt_22 (by decide) ?_
  refine z_icmp_lt (tgt := 32) C dX4_kindAt_23 (by decide) (fun h23 => ?_) (fun h23 => ?_)
  · skip
    have h2 : q.2.1 P < 2 := by
      rcases Nat.lt_or_ge (q.2.1 P) 2 with z | z
      · exact z
      · exact absurd h23 (nI_nlt (b := 2) z (by omega))
    refine z_bipush (v := 6) C dX4_kindAt_32 (by decide) ?_
    refine z_aload_n C dX4_kindAt_34 rfl 2 rfl ?_
    refine z_get C fl_X4_19 dX4_kindAt_35 hC.1 rfl ?_
    refine z_iload_n C dX4_kindAt_38 rfl 1 rfl ?_
    refine z_callV (rest := [.int ((6 : Int32))]) C (C_same hC (fun xs tl => m_X0_orderFrom l G base xs sc td q tl (nI P))) ml_X4_73 kw_X0_orderFrom hC.2.2.2.1.1 rfl rfl rfl (by simp [Value.category]) dX4_kindAt_39 (by decide) (by decide) (by decide) (by decide) ?_
    rintro _ _ ⟨rfl, rfl⟩
    refine z_st (st' := [.int (j_of q.1 (nI P)), .int ((6 : Int32))]) rfl ?_
    refine z_casti (y := nI (q.1 P - 1)) (by rw [j_of_at hP]; exact pk_sub (b := 1) hq1) ?_
    refine z_iadd C dX4_kindAt_42 ?_
    refine z_casti (y := nI (6 + (q.1 P - 1))) (nI_add 6 _) ?_
    exact z_iret C hrt rfl dX4_kindAt_43 (by decide) (by decide) (⟨by unfold c_ka; rw [if_neg (by omega)], rfl⟩)
  · skip
    have h2 : 2 ≤ q.2.1 P := by
      rcases Nat.lt_or_ge (q.2.1 P) 2 with z | z
      · exact absurd (nI_lt (b := 2) z (by decide)) h23
      · exact z
    refine z_iload_n C dX4_kindAt_26 rfl 0 rfl ?_
    refine z_iconst (v := 2) C dX4_kindAt_27 (by decide) ?_
    refine z_isub C dX4_kindAt_28 ?_
    refine z_casti (y := nI (q.2.1 P - 2)) (pk_sub (b := 2) h2) ?_
    refine z_goto (tgt := 43) C dX4_kindAt_29 (by decide) ?_
    exact z_iret C hrt rfl dX4_kindAt_43 (by decide) (by decide) (⟨by unfold c_ka; rw [if_pos h2], rfl⟩)

set_option maxHeartbeats 4000000 in
set_option maxRecDepth 100000 in
theorem m_X4_takeKind (l : Launch) (G : z_G) (base : Nat) (sc td : Nat → Int32) (q : q_T) (nc : Nat) (cf : Nat → Nat → Int32) (pl : Nat → Nat) (S : Nat → Option s_T) (mem : Nat → Nat) (hp : List va_E) (hC : C_ok G base sc td q nc cf pl S mem hp) (kt ko kb : Nat → Nat) (hX : X_ok nc q cf S kt ko kb) (k : Nat) (hk : k ≤ 12) : z_M l G base yX4_takeKind cX4_takeKind 3 (some .int) 5 2 68 [.ref (base + 0), .int (nI k)] hp (fun v hp' => ∃ x' sc' q' cf' S', v = some (.int x') ∧ T_kind kt ko kb sc q cf S k x' sc' q' cf' S' ∧ C_ok G base sc' td q' nc cf' pl S' mem hp' ∧ C_fr hp hp') := by
  refine z_M.of (lv0 := [(0, .ref (base + 0)), (1, .int (nI k))]) (by decide) (Nat.le_of_ble_eq_true rfl) rfl ?_
  intro p e s m below meth c hmn hrt C
  have hn6 := hX.n6
  refine z_iload_n C dX4_takeKind_0 rfl 1 rfl ?_
  refine z_bipush (v := 6) C dX4_takeKind_1 (by decide) ?_
  refine z_icmp_ge (tgt := 26) C dX4_takeKind_3 (by decide) (fun h3 => ?_) (fun h3 => ?_)
  · skip
    have h6 : 6 ≤ k := by
      rcases Nat.lt_or_ge k 6 with z | z
      · exact absurd h3 (nI_ge z (by decide))
      · exact z
    refine z_aload_n C dX4_takeKind_26 rfl 0 rfl ?_
    refine z_get C fl_X4_19 dX4_takeKind_27 hC.1 rfl ?_
    refine z_iload_n C dX4_takeKind_30 rfl 1 rfl ?_
    refine z_bipush (v := 6) C dX4_takeKind_31 (by decide) ?_
    refine z_isub C dX4_takeKind_33 ?_
    refine z_casti (y := nI (k - 6)) (pk_sub (b := 6) h6) ?_
    refine z_iconst (v := 1) C dX4_takeKind_34 (by decide) ?_
    refine z_callV (rest := []) C (C_lift hC (fun xs tl => m_X0_claim l G base xs sc td q tl hX.q hX.u hX.al (k - 6) 1 (by omega))) ml_X4_66 kw_X0_claim hC.2.2.2.1.1 rfl rfl rfl (by simp [Value.category]) dX4_takeKind_35 (by decide) (by decide) (by decide) (by decide) ?_
    rintro _ hp3 ⟨rfl, hC3, hF3⟩
    refine z_st (st' := [.int (oI (j_take sc q (k - 6)))]) rfl ?_
    rcases opt_cases (j_take sc q (k - 6)) with hjt | ⟨P, hjt⟩
    · skip
      refine z_casti (y := -1) (by rw [hjt]; rfl) ?_
      refine z_istore_n (lv' := [(2, .int ((-1 : Int32))), (0, .ref (base + 0)), (1, .int (nI k))]) C dX4_takeKind_38 rfl (by decide) rfl ?_
      refine z_iload_n C dX4_takeKind_39 rfl 0 rfl ?_
      refine z_iconst (v := -1) C dX4_takeKind_40 (by decide) ?_
      refine z_icmp_ne (tgt := 48) C dX4_takeKind_41 (by decide) (fun h41 => absurd h41 (by decide)) (fun h41 => ?_)
      refine z_iconst (v := -1) C dX4_takeKind_44 (by decide) ?_
      refine z_goto (tgt := 52) C dX4_takeKind_45 (by decide) ?_
      exact z_iret C hrt rfl dX4_takeKind_52 (by decide) (by decide) (⟨_, _, _, _, _, rfl, Or.inr ⟨h6, by rw [hjt], rfl, rfl, rfl, rfl⟩, hC3, hF3⟩)
    · skip
      refine z_casti (y := nI P) (by rw [hjt]; rfl) ?_
      have hP := (j_take_lt hjt).1
      refine z_istore_n (lv' := [(2, .int (nI P)), (0, .ref (base + 0)), (1, .int (nI k))]) C dX4_takeKind_38 rfl (by decide) rfl ?_
      refine z_iload_n C dX4_takeKind_39 rfl 0 rfl ?_
      refine z_iconst (v := -1) C dX4_takeKind_40 (by decide) ?_
      refine z_icmp_ne (tgt := 48) C dX4_takeKind_41 (by decide) (fun h41 => ?_) (fun h41 => absurd h41 (nI_m1 (by omega)))
      refine z_iload_n C dX4_takeKind_48 rfl 0 rfl ?_
      refine z_bipush (v := 64) C dX4_takeKind_49 (by decide) ?_
      refine z_imul C dX4_takeKind_51 ?_
      refine z_casti (y := nI (P * 64)) (pk_mul _ 64) ?_
      exact z_iret C hrt rfl dX4_takeKind_52 (by decide) (by decide) (⟨_, _, _, _, _, rfl, Or.inr ⟨h6, by rw [hjt], rfl, rfl, rfl, rfl⟩, hC3, hF3⟩)
  · skip
    have h6 : k < 6 := by
      rcases Nat.lt_or_ge k 6 with z | z
      · exact z
      · exact absurd (nI_le (a := 6) z (by omega)) h3
    refine z_aload_n C dX4_takeKind_6 rfl 0 rfl ?_
    refine z_iload_n C dX4_takeKind_7 rfl 1 rfl ?_
    refine z_callV (rest := []) C (m_X4_cacheOf l G base sc td q nc cf pl S mem _ hC hX.nc (nI k)) ml_X4_83 kw_X4_cacheOf hC.1 rfl rfl rfl (by simp [Value.category]) dX4_takeKind_8 (by decide) (by decide) (by decide) (by decide) ?_
    rintro _ h9 ⟨rfl, e9⟩
    replace e9 := e9.symm
    subst e9
    refine z_st (st' := [va_rf (c_co base nc pl (nI k))]) rfl ?_
    skip
    · skip
      refine z_st (st' := [.ref (base + (pl k))]) (by rw [c_co_at hX.nc (show k < nc by omega)]; rfl) ?_
      refine z_astore_n (lv' := [(2, .ref (base + (pl k))), (0, .ref (base + 0)), (1, .int (nI k))]) C dX4_takeKind_11 rfl (by decide) rfl ?_
      refine z_aload_n C dX4_takeKind_12 rfl 0 rfl ?_
      refine z_ifnonnull_s (tgt := 20) C dX4_takeKind_13 (by decide) ?_
      refine z_aload_n C dX4_takeKind_20 rfl 1 rfl ?_
      refine z_aload_n C dX4_takeKind_21 rfl 0 rfl ?_
      refine z_callV (rest := []) C (m_X4_takeObject l G base sc td q nc cf pl S mem _ hC kt ko kb hX k (by omega)) ml_X4_87 kw_X4_takeObject hC.1 rfl rfl rfl (by simp [Value.category]) dX4_takeKind_22 (by decide) (by decide) (by decide) (by decide) ?_
      rintro _ hp3 ⟨x3, sc3, q3, cf3, S3, rfl, hT3, hC3, hF3⟩
      refine z_st (st' := [.int (x3)]) rfl ?_
      exact z_iret C hrt rfl dX4_takeKind_25 (by decide) (by decide) (⟨_, _, _, _, _, rfl, Or.inl ⟨h6, hT3⟩, hC3, hF3⟩)

set_option maxHeartbeats 4000000 in
set_option maxRecDepth 100000 in
theorem m_X4_giveBySize (l : Launch) (G : z_G) (base : Nat) (sc td : Nat → Int32) (q : q_T) (nc : Nat) (cf : Nat → Nat → Int32) (pl : Nat → Nat) (S : Nat → Option s_T) (mem : Nat → Nat) (hp : List va_E) (hC : C_ok G base sc td q nc cf pl S mem hp) (kt ko kb : Nat → Nat) (hX : X_ok nc q cf S kt ko kb) (a P : Nat) (hG : H_gbs q S kt kb a P) : z_M l G base yX4_giveBySize cX4_giveBySize 4 none 5 0 0 [.ref (base + 0), .int (nI a)] hp (fun v hp' => v = none ∧ ∃ sc' q' cf' S', T_gbs kt kb sc q cf S a P sc' q' cf' S' ∧ C_ok G base sc' td q' nc cf' pl S' mem hp' ∧ C_fr hp hp') := by
  refine z_M.of (lv0 := [(0, .ref (base + 0)), (1, .int (nI a))]) (by decide) (Nat.le_of_ble_eq_true rfl) rfl ?_
  intro p e s m below meth c hmn hrt C
  obtain ⟨ha, hP, hq1, hfo, hG⟩ := hG
  have hn6 := hX.n6
  have hq7 := hX.q P
  refine z_aload_n C dX4_giveBySize_0 rfl 0 rfl ?_
  refine z_iload_n C dX4_giveBySize_1 rfl 1 rfl ?_
  refine z_callV (rest := []) C (m_X4_kindAt l G base sc td q nc cf pl S mem _ hC kt ko kb hX a P ha hP hq1 hfo) ml_X4_120 kw_X4_kindAt hC.1 rfl rfl rfl (by simp [Value.category]) dX4_giveBySize_2 (by decide) (by decide) (by decide) (by decide) ?_
  rintro _ h9 ⟨rfl, e9⟩
  replace e9 := e9.symm
  subst e9
  refine z_st (st' := [.int (nI (c_ka q P))]) rfl ?_
  rcases hG with ⟨k, i, hk6, hu2, hG2⟩ | ⟨h2, hPa⟩
  · skip
    refine z_casti (y := nI k) (by unfold c_ka; rw [hu2, if_pos (by omega), Nat.add_sub_cancel_left]) ?_
    refine z_istore_n (lv' := [(2, .int (nI k)), (0, .ref (base + 0)), (1, .int (nI a))]) C dX4_giveBySize_5 rfl (by decide) rfl ?_
    refine z_iload_n C dX4_giveBySize_6 rfl 0 rfl ?_
    refine z_bipush (v := 6) C dX4_giveBySize_7 (by decide) ?_
    refine z_icmp_ge (tgt := 20) C dX4_giveBySize_9 (by decide) (fun h9 => absurd h9 (nI_ge hk6 (by decide))) (fun h9 => ?_)
    refine z_aload_n C dX4_giveBySize_12 rfl 1 rfl ?_
    refine z_iload_n C dX4_giveBySize_13 rfl 0 rfl ?_
    refine z_callV (rest := []) C (m_X4_cacheOf l G base sc td q nc cf pl S mem _ hC hX.nc (nI k)) ml_X4_83 kw_X4_cacheOf hC.1 rfl rfl rfl (by simp [Value.category]) dX4_giveBySize_14 (by decide) (by decide) (by decide) (by decide) ?_
    rintro _ h9 ⟨rfl, e9⟩
    replace e9 := e9.symm
    subst e9
    refine z_st (st' := [va_rf (c_co base nc pl (nI k))]) rfl ?_
    skip
    · skip
      refine z_st (st' := [.ref (base + (pl k))]) (by rw [c_co_at hX.nc (show k < nc by omega)]; rfl) ?_
      refine z_goto (tgt := 21) C dX4_giveBySize_17 (by decide) ?_
      refine z_astore_n (lv' := [(3, .ref (base + (pl k))), (2, .int (nI k)), (0, .ref (base + 0)), (1, .int (nI a))]) C dX4_giveBySize_21 rfl (by decide) rfl ?_
      refine z_aload_n C dX4_giveBySize_22 rfl 0 rfl ?_
      refine z_ifnonnull_s (tgt := 40) C dX4_giveBySize_23 (by decide) ?_
      refine z_aload_n C dX4_giveBySize_40 rfl 2 rfl ?_
      refine z_aload_n C dX4_giveBySize_41 rfl 0 rfl ?_
      refine z_iload_n C dX4_giveBySize_42 rfl 3 rfl ?_
      refine z_callV (rest := []) C (m_X4_giveObject l G base sc td q nc cf pl S mem _ hC kt ko kb hX k (by omega) a P i hG2) ml_X4_95 kw_X4_giveObject hC.1 rfl rfl rfl (by simp [Value.category]) dX4_giveBySize_43 (by decide) (by decide) (by decide) (by decide) ?_
      rintro _ hp3 ⟨x3, sc3, q3, cf3, S3, rfl, hT3, hC3, hF3⟩
      refine z_st (st' := [.int (x3)]) rfl ?_
      refine z_pop C dX4_giveBySize_46 rfl ?_
      exact z_vret C hrt dX4_giveBySize_47 (by decide) (by decide) (⟨rfl, _, _, _, _, Or.inl ⟨k, i, _, hu2, hG2, hT3⟩, hC3, hF3⟩)
  · skip
    refine z_casti (y := nI (6 + (q.1 P - 1))) (by unfold c_ka; rw [if_neg (by omega)]) ?_
    refine z_istore_n (lv' := [(2, .int (nI (6 + (q.1 P - 1)))), (0, .ref (base + 0)), (1, .int (nI a))]) C dX4_giveBySize_5 rfl (by decide) rfl ?_
    refine z_iload_n C dX4_giveBySize_6 rfl 0 rfl ?_
    refine z_bipush (v := 6) C dX4_giveBySize_7 (by decide) ?_
    refine z_icmp_ge (tgt := 20) C dX4_giveBySize_9 (by decide) (fun h9 => ?_) (fun h9 => absurd h9 (fun z => z (nI_le (a := 6) (by omega) (by omega))))
    refine z_null C dX4_giveBySize_20 ?_
    refine z_astore_nq (x := none) (lv' := [(3, .null), (2, .int (nI (6 + (q.1 P - 1)))), (0, .ref (base + 0)), (1, .int (nI a))]) C dX4_giveBySize_21 rfl (by decide) rfl ?_
    refine z_aload_nq (x := none) C dX4_giveBySize_22 rfl 0 rfl ?_
    refine z_ifnonnull_n C dX4_giveBySize_23 ?_
    refine z_aload_n C dX4_giveBySize_26 rfl 2 rfl ?_
    refine z_get C fl_X4_19 dX4_giveBySize_27 hC.1 rfl ?_
    refine z_iload_n C dX4_giveBySize_30 rfl 3 rfl ?_
    refine z_bipush (v := 64) C dX4_giveBySize_31 (by decide) ?_
    refine z_idiv C dX4_giveBySize_33 (by decide) ?_
    refine z_casti (y := nI P) (by rw [hPa]; exact pk_div (d := 64) (by omega) (by omega) (by decide)) ?_
    refine z_callV (rest := []) C (C_lift hC (fun xs tl => m_X0_release l G base xs sc td q tl hX.q hX.u P hP hq1)) ml_X4_76 kw_X0_release hC.2.2.2.1.1 rfl rfl rfl (by simp [Value.category]) dX4_giveBySize_34 (by decide) (by decide) (by decide) (by decide) ?_
    rintro _ hp3 ⟨rfl, hC3, hF3⟩
    refine z_st (st' := []) rfl ?_
    refine z_goto (tgt := 47) C dX4_giveBySize_37 (by decide) ?_
    exact z_vret C hrt dX4_giveBySize_47 (by decide) (by decide) (⟨rfl, _, _, _, _, Or.inr ⟨h2, rfl, rfl, rfl, rfl⟩, hC3, hF3⟩)
