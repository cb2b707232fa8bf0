set_option maxHeartbeats 4000000 in
set_option maxRecDepth 100000 in
theorem m_X5_classAt (l : Launch) (G : z_G) (base : Nat) (xs : Nat → va_E) (r : r_T) (tl : List va_E) (nc : Nat) (hw : r_wf r nc) (x : Int32) : z_M l G base yX5_classAt cX5_classAt 4 (some .int) 3 0 0 [.ref (base + 16), .int (x)] (hpM G base xs r tl) (fun v hp' => v = some (.int (r_ca r (x))) ∧ hp' = hpM G base xs r tl) := by
  refine z_M.of (lv0 := [(0, .ref (base + 16)), (1, .int (x))]) (by decide) (Nat.le_of_ble_eq_true rfl) rfl ?_
  intro p e s m below meth c hmn hrt C
  refine z_aload_n C dX5_classAt_0 rfl 0 rfl ?_
  refine z_iload_n C dX5_classAt_1 rfl 1 rfl ?_
  refine z_callV (rest := []) C (m_X5_slabAt l G base xs r tl hw.1.1 (x)) ml_X5_128 kw_X5_slabAt rfl rfl rfl rfl (by simp [Value.category]) dX5_classAt_2 (by decide) (by decide) (by decide) (by decide) ?_
  rintro _ _ ⟨rfl, rfl⟩
  refine z_st (st' := [.int (oI (r_sa r (x)))]) rfl ?_
  rcases opt_cases (r_sa r (x)) with hsa | ⟨P, hsa⟩
  · skip
    refine z_casti (y := -1) (by rw [hsa]; rfl) ?_
    refine z_istore_n (lv' := [(2, .int ((-1 : Int32))), (0, .ref (base + 16)), (1, .int (x))]) C dX5_classAt_5 rfl (by decide) rfl ?_
    refine z_iload_n C dX5_classAt_6 rfl 0 rfl ?_
    refine z_if_lt (tgt := 47) C dX5_classAt_7 (by decide) (fun h7 => ?_) (fun h7 => absurd h7 (by decide))
    refine z_iload_n C dX5_classAt_47 rfl 2 rfl ?_
    refine z_if_lt (tgt := 58) C dX5_classAt_48 (by decide) (fun h48 => ?_) (fun h48 => ?_)
    · skip
      refine z_bipush (v := -2) C dX5_classAt_58 (by decide) ?_
      exact z_iret C hrt rfl dX5_classAt_60 (by decide) (by decide) (⟨by rw [r_ca_neg hsa h48], rfl⟩)
    · skip
      obtain ⟨a, ha, rfl⟩ := nI_of h48
      refine z_iload_n C dX5_classAt_51 rfl 2 rfl ?_
      refine z_bipush (v := 64) C dX5_classAt_52 (by decide) ?_
      refine z_irem C dX5_classAt_54 (by decide) ?_
      refine z_casti (y := nI (a % 64)) (pk_rem (d := 64) ha (by decide) (by decide)) ?_
      refine z_if_eq (tgt := 61) C dX5_classAt_55 (by decide) (fun h55 => ?_) (fun h55 => ?_)
      · skip
        have h64 : a % 64 = 0 := (nI_eq (b := 0) (by omega) (by decide)).mp h55
        refine z_aload_n C dX5_classAt_61 rfl 1 rfl ?_
        refine z_iload_n C dX5_classAt_62 rfl 2 rfl ?_
        refine z_bipush (v := 64) C dX5_classAt_63 (by decide) ?_
        refine z_idiv C dX5_classAt_65 (by decide) ?_
        refine z_casti (y := nI (a / 64)) (pk_div (d := 64) ha (by decide) (by decide)) ?_
        refine z_callV (rest := []) C (m_X5_faultOfPage l G base xs r tl hw.1.1 (nI (a / 64))) ml_X5_104 kw_X5_faultOfPage rfl rfl rfl rfl (by simp [Value.category]) dX5_classAt_66 (by decide) (by decide) (by decide) (by decide) ?_
        rintro _ _ ⟨rfl, rfl⟩
        refine z_st (st' := [.int (r_fp r (nI (a / 64)))]) rfl ?_
        rcases r_fp_cases r (nI (a / 64)) with h9 | h9 | ⟨h9, z, hz, hze, hfs, htk2, hcc2⟩
        · skip
          refine z_casti h9 ?_
          refine z_istore_n (lv' := [(3, .int ((-2 : Int32))), (2, .int ((-1 : Int32))), (0, .ref (base + 16)), (1, .int (nI a))]) C dX5_classAt_69 rfl (by decide) rfl ?_
          refine z_iload_n C dX5_classAt_70 rfl 0 rfl ?_
          refine z_if_ge (tgt := 78) C dX5_classAt_71 (by decide) (fun h71 => absurd h71 (by decide)) (fun h71 => ?_)
          refine z_iload_n C dX5_classAt_74 rfl 0 rfl ?_
          refine z_goto (tgt := 90) C dX5_classAt_75 (by decide) ?_
          exact z_iret C hrt rfl dX5_classAt_90 (by decide) (by decide) (⟨by rw [r_ca_none hsa ha, if_neg (fun q => q h64)]; first | rw [if_pos h9] | rw [if_neg (by rw [h9]; decide), h9], rfl⟩)
        · skip
          refine z_casti h9 ?_
          refine z_istore_n (lv' := [(3, .int ((-3 : Int32))), (2, .int ((-1 : Int32))), (0, .ref (base + 16)), (1, .int (nI a))]) C dX5_classAt_69 rfl (by decide) rfl ?_
          refine z_iload_n C dX5_classAt_70 rfl 0 rfl ?_
          refine z_if_ge (tgt := 78) C dX5_classAt_71 (by decide) (fun h71 => absurd h71 (by decide)) (fun h71 => ?_)
          refine z_iload_n C dX5_classAt_74 rfl 0 rfl ?_
          refine z_goto (tgt := 90) C dX5_classAt_75 (by decide) ?_
          exact z_iret C hrt rfl dX5_classAt_90 (by decide) (by decide) (⟨by rw [r_ca_none hsa ha, if_neg (fun q => q h64)]; first | rw [if_pos h9] | rw [if_neg (by rw [h9]; decide), h9], rfl⟩)
        · skip
          refine z_casti h9 ?_
          have hzl : a / 64 < 256 := by have := (nI_eq (by omega) (by omega)).mp hze; omega
          refine z_istore_n (lv' := [(3, .int ((0 : Int32))), (2, .int ((-1 : Int32))), (0, .ref (base + 16)), (1, .int (nI a))]) C dX5_classAt_69 rfl (by decide) rfl ?_
          refine z_iload_n C dX5_classAt_70 rfl 0 rfl ?_
          refine z_if_ge (tgt := 78) C dX5_classAt_71 (by decide) (fun h71 => ?_) (fun h71 => absurd h71 (by decide))
          refine z_bipush (v := 6) C dX5_classAt_78 (by decide) ?_
          refine z_aload_n C dX5_classAt_80 rfl 2 rfl ?_
          refine z_get C fl_X5_20 dX5_classAt_81 rfl rfl ?_
          refine z_iload_n C dX5_classAt_84 rfl 3 rfl ?_
          refine z_bipush (v := 64) C dX5_classAt_85 (by decide) ?_
          refine z_idiv C dX5_classAt_87 (by decide) ?_
          refine z_casti (y := nI (a / 64)) (pk_div (d := 64) ha (by decide) (by decide)) ?_
          refine z_ialdK C dX5_classAt_88 rfl (by omega) (by decide) ?_
          refine z_iadd C dX5_classAt_89 ?_
          refine z_casti (y := nI (6 + r.2.1 2 (a / 64))) (nI_add 6 _) ?_
          exact z_iret C hrt rfl dX5_classAt_90 (by decide) (by decide) (⟨by rw [r_ca_none hsa ha, if_neg (fun q => q h64)]; first | rw [if_pos h9] | rw [if_neg (by rw [h9]; decide), h9], rfl⟩)
      · skip
        have h64 : ¬ a % 64 = 0 := fun q => h55 (by rw [q]; rfl)
        refine z_bipush (v := -2) C dX5_classAt_58 (by decide) ?_
        exact z_iret C hrt rfl dX5_classAt_60 (by decide) (by decide) (⟨by rw [r_ca_none hsa ha, if_pos h64], rfl⟩)
  · skip
    refine z_casti (y := nI P) (by rw [hsa]; rfl) ?_
    obtain ⟨a, ha, rfl, hst, hus, hPe, htk, hcc⟩ := r_sa_some hsa
    obtain ⟨hP, hPf, hPa, c0, hc0, hcP, hfull⟩ := hw.2.2.2.2.1 a P ha hsa
    have hc12 := hw.2.2.1.2.2
    obtain ⟨hs1, hs2, hs3, hs4, hs5⟩ := hw.2.1 c0 hc0
    refine z_istore_n (lv' := [(2, .int (nI P)), (0, .ref (base + 16)), (1, .int (nI a))]) C dX5_classAt_5 rfl (by decide) rfl ?_
    refine z_iload_n C dX5_classAt_6 rfl 0 rfl ?_
    refine z_if_lt (tgt := 47) C dX5_classAt_7 (by decide) (fun h7 => absurd h7 (nI_pos (by omega))) (fun h7 => ?_)
    refine z_aload_n C dX5_classAt_10 rfl 1 rfl ?_
    refine z_get C fl_X5_26 dX5_classAt_11 rfl rfl ?_
    refine z_iload_n C dX5_classAt_14 rfl 0 rfl ?_
    refine z_ialdN C dX5_classAt_15 rfl (by omega) (by decide) ?_
    refine z_casti (y := nI c0) (hcP) ?_
    refine z_iconst (v := 5) C dX5_classAt_16 (by decide) ?_
    refine z_icmp_le (tgt := 25) C dX5_classAt_17 (by decide) (fun h17 => ?_) (fun h17 => ?_)
    · skip
      have h5 : ¬ (5 : Int32) < nI c0 := Int32.not_lt.mpr h17
      refine z_aload_n C dX5_classAt_25 rfl 1 rfl ?_
      refine z_iload_n C dX5_classAt_26 rfl 0 rfl ?_
      refine z_iload_n C dX5_classAt_27 rfl 2 rfl ?_
      refine z_callV (rest := []) C (m_X5_faultOfObject l G base xs r tl P a c0 hP hPa ha hcP (by omega) hs1 hs2 hs3 (hw.1.2.2.2 P) hw.1.2.2.1) ml_X5_131 kw_X5_faultOfObject rfl rfl rfl rfl (by simp [Value.category]) dX5_classAt_28 (by decide) (by decide) (by decide) (by decide) ?_
      rintro _ _ ⟨rfl, rfl⟩
      refine z_st (st' := [.int (r_fob r P a c0)]) rfl ?_
      rcases r_fob_cases r P a c0 with h9 | h9 | h9
      · skip
        refine z_casti h9 ?_
        refine z_istore_n (lv' := [(3, .int ((-2 : Int32))), (2, .int (nI P)), (0, .ref (base + 16)), (1, .int (nI a))]) C dX5_classAt_31 rfl (by decide) rfl ?_
        refine z_iload_n C dX5_classAt_32 rfl 0 rfl ?_
        refine z_if_ge (tgt := 40) C dX5_classAt_33 (by decide) (fun h33 => absurd h33 (by decide)) (fun h33 => ?_)
        refine z_iload_n C dX5_classAt_36 rfl 0 rfl ?_
        refine z_goto (tgt := 46) C dX5_classAt_37 (by decide) ?_
        exact z_iret C hrt rfl dX5_classAt_46 (by decide) (by decide) (⟨by rw [r_ca_some hsa hcP (by omega) (by omega)]; first | rw [if_pos h5] | (rw [if_neg h5]; first | rw [if_pos h9] | rw [if_neg (by rw [h9]; decide), h9]), rfl⟩)
      · skip
        refine z_casti h9 ?_
        refine z_istore_n (lv' := [(3, .int ((-3 : Int32))), (2, .int (nI P)), (0, .ref (base + 16)), (1, .int (nI a))]) C dX5_classAt_31 rfl (by decide) rfl ?_
        refine z_iload_n C dX5_classAt_32 rfl 0 rfl ?_
        refine z_if_ge (tgt := 40) C dX5_classAt_33 (by decide) (fun h33 => absurd h33 (by decide)) (fun h33 => ?_)
        refine z_iload_n C dX5_classAt_36 rfl 0 rfl ?_
        refine z_goto (tgt := 46) C dX5_classAt_37 (by decide) ?_
        exact z_iret C hrt rfl dX5_classAt_46 (by decide) (by decide) (⟨by rw [r_ca_some hsa hcP (by omega) (by omega)]; first | rw [if_pos h5] | (rw [if_neg h5]; first | rw [if_pos h9] | rw [if_neg (by rw [h9]; decide), h9]), rfl⟩)
      · skip
        refine z_casti h9 ?_
        refine z_istore_n (lv' := [(3, .int ((0 : Int32))), (2, .int (nI P)), (0, .ref (base + 16)), (1, .int (nI a))]) C dX5_classAt_31 rfl (by decide) rfl ?_
        refine z_iload_n C dX5_classAt_32 rfl 0 rfl ?_
        refine z_if_ge (tgt := 40) C dX5_classAt_33 (by decide) (fun h33 => ?_) (fun h33 => absurd h33 (by decide))
        refine z_aload_n C dX5_classAt_40 rfl 2 rfl ?_
        refine z_get C fl_X5_26 dX5_classAt_41 rfl rfl ?_
        refine z_iload_n C dX5_classAt_44 rfl 1 rfl ?_
        refine z_ialdN C dX5_classAt_45 rfl (by omega) (by decide) ?_
        refine z_casti (y := nI c0) (hcP) ?_
        exact z_iret C hrt rfl dX5_classAt_46 (by decide) (by decide) (⟨by rw [r_ca_some hsa hcP (by omega) (by omega)]; first | rw [if_pos h5] | (rw [if_neg h5]; first | rw [if_pos h9] | rw [if_neg (by rw [h9]; decide), h9]), rfl⟩)
    · skip
      have h5 : (5 : Int32) < nI c0 := Int32.not_le.mp h17
      refine z_bipush (v := -2) C dX5_classAt_20 (by decide) ?_
      refine z_goto (tgt := 31) C dX5_classAt_22 (by decide) ?_
      refine z_istore_n (lv' := [(3, .int ((-2 : Int32))), (2, .int (nI P)), (0, .ref (base + 16)), (1, .int (nI a))]) C dX5_classAt_31 rfl (by decide) rfl ?_
      refine z_iload_n C dX5_classAt_32 rfl 0 rfl ?_
      refine z_if_ge (tgt := 40) C dX5_classAt_33 (by decide) (fun h33 => absurd h33 (by decide)) (fun h33 => ?_)
      refine z_iload_n C dX5_classAt_36 rfl 0 rfl ?_
      refine z_goto (tgt := 46) C dX5_classAt_37 (by decide) ?_
      exact z_iret C hrt rfl dX5_classAt_46 (by decide) (by decide) (⟨by rw [r_ca_some hsa hcP (by omega) (by omega)]; first | rw [if_pos h5] | (rw [if_neg h5]; first | rw [if_pos h9] | rw [if_neg (by rw [h9]; decide), h9]), rfl⟩)

set_option maxHeartbeats 4000000 in
set_option maxRecDepth 100000 in
theorem m_X5_release (l : Launch) (G : z_G) (base : Nat) (xs : Nat → va_E) (r : r_T) (tl : List va_E) (nc : Nat) (hw : r_wf r nc) (a P c0 : Nat) (ha : a < 16384) (hsa : r_sa r (nI a) = some P) (hc6 : c0 < 6) (hc0 : c0 < nc) (hcP : r.2.2 2 P = nI c0) (hP : P < 256) (hPf : r_first r P = true) (hPa : 64 * P ≤ a) (hfl : r.2.1 4 P + 1 ≤ r_ob r c0) : z_M l G base yX5_release cX5_release 3 (some .int) 5 0 0 [.ref (base + 16), .int (nI a), .int (nI c0)] (hpM G base xs r tl) (fun v hp' => v = some (.int (nI (r_ob r c0 - (r.2.1 4 P + 1)))) ∧ hp' = hpM G base xs (r_rlS r a c0) tl) := by
  refine z_M.of (lv0 := [(0, .ref (base + 16)), (1, .int (nI a)), (2, .int (nI c0))]) (by decide) (Nat.le_of_ble_eq_true rfl) rfl ?_
  intro p e s m below meth c hmn hrt C
  obtain ⟨hs1, hs2, hs3, hs4, hs5⟩ := hw.2.1 c0 hc0
  refine z_iload_n C dX5_release_0 rfl 2 rfl ?_
  refine z_bipush (v := 6) C dX5_release_1 (by decide) ?_
  refine z_icmp_ge (tgt := 17) C dX5_release_3 (by decide) (fun h3 => absurd h3 (nI_ge hc6 (by decide))) (fun h3 => ?_)
  refine z_aload_n C dX5_release_6 rfl 0 rfl ?_
  refine z_aload_n C dX5_release_7 rfl 0 rfl ?_
  refine z_iload_n C dX5_release_8 rfl 1 rfl ?_
  refine z_callV (rest := [.ref (base + 16)]) C (m_X5_slabAt l G base xs r tl hw.1.1 (nI a)) ml_X5_128 kw_X5_slabAt rfl rfl rfl rfl (by simp [Value.category]) dX5_release_9 (by decide) (by decide) (by decide) (by decide) ?_
  rintro _ _ ⟨rfl, rfl⟩
  refine z_st (st' := [.int (oI (r_sa r (nI a))), .ref (base + 16)]) rfl ?_
  refine z_casti (y := nI P) (by rw [hsa]; rfl) ?_
  refine z_iload_n C dX5_release_12 rfl 1 rfl ?_
  refine z_callV (rest := []) C (m_X5_giveObject l G base xs r tl hw.1.1 hw.1.2.1 P a c0 hP hPa ha hcP (by omega) hs1 hs2 hs3 hfl hs5 (hw.2.2.2.1 P hP hPf)) ml_X5_134 kw_X5_giveObject rfl rfl rfl rfl (by simp [Value.category]) dX5_release_13 (by decide) (by decide) (by decide) (by decide) ?_
  rintro _ _ ⟨rfl, rfl⟩
  refine z_st (st' := [.int (nI (r_ob r c0 - (r.2.1 4 P + 1)))]) rfl ?_
  exact z_iret C hrt rfl dX5_release_16 (by decide) (by decide) (⟨rfl, by unfold r_rlS; rw [if_pos hc6, hsa]⟩)

set_option maxHeartbeats 4000000 in
set_option maxRecDepth 100000 in
theorem m_X5_release_2 (l : Launch) (G : z_G) (base : Nat) (xs : Nat → va_E) (r : r_T) (tl : List va_E) (nc : Nat) (hw : r_wf r nc) (a k : Nat) (ha : a < 16384) (hk : 6 ≤ k) (hk2 : k ≤ 12) (hPf : r_first r (a / 64) = true) : z_M l G base yX5_release cX5_release 3 (some .int) 5 0 0 [.ref (base + 16), .int (nI a), .int (nI k)] (hpM G base xs r tl) (fun v hp' => v = some (.int (nI (2 ^ r.2.1 2 (a / 64)))) ∧ hp' = hpM G base xs (r_rlS r a k) tl) := by
  refine z_M.of (lv0 := [(0, .ref (base + 16)), (1, .int (nI a)), (2, .int (nI k))]) (by decide) (Nat.le_of_ble_eq_true rfl) rfl ?_
  intro p e s m below meth c hmn hrt C
  refine z_iload_n C dX5_release_0 rfl 2 rfl ?_
  refine z_bipush (v := 6) C dX5_release_1 (by decide) ?_
  refine z_icmp_ge (tgt := 17) C dX5_release_3 (by decide) (fun h3 => ?_) (fun h3 => absurd h3 (fun q => q (nI_le (a := 6) hk (by omega))))
  refine z_aload_n C dX5_release_17 rfl 0 rfl ?_
  refine z_iload_n C dX5_release_18 rfl 1 rfl ?_
  refine z_bipush (v := 64) C dX5_release_19 (by decide) ?_
  refine z_idiv C dX5_release_21 (by decide) ?_
  refine z_casti (y := nI (a / 64)) (pk_div (d := 64) (by omega) (by decide) (by decide)) ?_
  refine z_callV (rest := []) C (m_X5_giveBlock l G base xs r tl hw.1.1 hw.1.2.1 (a / 64) (by omega) (hw.2.2.2.1 _ (by omega) hPf)) ml_X5_107 kw_X5_giveBlock rfl rfl rfl rfl (by simp [Value.category]) dX5_release_22 (by decide) (by decide) (by decide) (by decide) ?_
  rintro _ _ ⟨rfl, rfl⟩
  refine z_st (st' := [.int (nI (2 ^ r.2.1 2 (a / 64)))]) rfl ?_
  exact z_iret C hrt rfl dX5_release_25 (by decide) (by decide) (⟨rfl, by unfold r_rlS; rw [if_neg (by omega)]⟩)

set_option maxHeartbeats 4000000 in
set_option maxRecDepth 100000 in
theorem m_X5_size (l : Launch) (G : z_G) (base : Nat) (xs : Nat → va_E) (r : r_T) (tl : List va_E) (nc : Nat) (hw : r_wf r nc) (x : Int32) : z_M l G base yX5_size cX5_size 3 (some .int) 4 0 0 [.ref (base + 16), .int (x)] (hpM G base xs r tl) (fun v hp' => v = some (.int (r_szA r (x))) ∧ hp' = hpM G base xs r tl) := by
  refine z_M.of (lv0 := [(0, .ref (base + 16)), (1, .int (x))]) (by decide) (Nat.le_of_ble_eq_true rfl) rfl ?_
  intro p e s m below meth c hmn hrt C
  refine z_aload_n C dX5_size_0 rfl 0 rfl ?_
  refine z_iload_n C dX5_size_1 rfl 1 rfl ?_
  refine z_callV (rest := []) C (m_X5_classAt l G base xs r tl nc hw (x)) ml_X5_143 kw_X5_classAt rfl rfl rfl rfl (by simp [Value.category]) dX5_size_2 (by decide) (by decide) (by decide) (by decide) ?_
  rintro _ _ ⟨rfl, rfl⟩
  refine z_st (st' := [.int (r_ca r (x))]) rfl ?_
  rcases r_ca_cases hw x with h9 | h9 | ⟨a, P, c0, ha, rfl, hsa, hc6, hc0, hcP, hf0, h9, hP, hPf, hPa, hfl⟩ | ⟨a, ha, rfl, h64, hf0, h9, hPf⟩
  · skip
    refine z_casti h9 ?_
    refine z_istore_n (lv' := [(2, .int ((-2 : Int32))), (0, .ref (base + 16)), (1, .int (x))]) C dX5_size_5 rfl (by decide) rfl ?_
    refine z_iload_n C dX5_size_6 rfl 0 rfl ?_
    refine z_if_ge (tgt := 14) C dX5_size_7 (by decide) (fun h7 => absurd h7 (by decide)) (fun h7 => ?_)
    refine z_iload_n C dX5_size_10 rfl 0 rfl ?_
    refine z_goto (tgt := 18) C dX5_size_11 (by decide) ?_
    exact z_iret C hrt rfl dX5_size_18 (by decide) (by decide) (⟨by unfold r_szA; first | rw [if_pos (by rw [h9]; first | exact neg2 | exact neg3), h9] | rw [if_neg (by rw [h9]; exact nI_pos (by omega)), h9, nI_clamp (by omega)], rfl⟩)
  · skip
    refine z_casti h9 ?_
    refine z_istore_n (lv' := [(2, .int ((-3 : Int32))), (0, .ref (base + 16)), (1, .int (x))]) C dX5_size_5 rfl (by decide) rfl ?_
    refine z_iload_n C dX5_size_6 rfl 0 rfl ?_
    refine z_if_ge (tgt := 14) C dX5_size_7 (by decide) (fun h7 => absurd h7 (by decide)) (fun h7 => ?_)
    refine z_iload_n C dX5_size_10 rfl 0 rfl ?_
    refine z_goto (tgt := 18) C dX5_size_11 (by decide) ?_
    exact z_iret C hrt rfl dX5_size_18 (by decide) (by decide) (⟨by unfold r_szA; first | rw [if_pos (by rw [h9]; first | exact neg2 | exact neg3), h9] | rw [if_neg (by rw [h9]; exact nI_pos (by omega)), h9, nI_clamp (by omega)], rfl⟩)
  · skip
    refine z_casti h9 ?_
    refine z_istore_n (lv' := [(2, .int (nI c0)), (0, .ref (base + 16)), (1, .int (nI a))]) C dX5_size_5 rfl (by decide) rfl ?_
    refine z_iload_n C dX5_size_6 rfl 0 rfl ?_
    refine z_if_ge (tgt := 14) C dX5_size_7 (by decide) (fun h7 => ?_) (fun h7 => absurd h7 (fun q => q (nI_pos' (by omega))))
    refine z_iload_n C dX5_size_14 rfl 0 rfl ?_
    refine z_callS (rest := []) C (m_X5_bytesOf l G base _ c0 (by omega)) ml_X5_149 kw_X5_bytesOf rfl rfl (by simp [Value.category]) dX5_size_15 (by decide) (by decide) (by decide) (by decide) ?_
    rintro _ _ ⟨rfl, rfl⟩
    refine z_st (st' := [.int (nI (k_bytes c0))]) rfl ?_
    exact z_iret C hrt rfl dX5_size_18 (by decide) (by decide) (⟨by unfold r_szA; first | rw [if_pos (by rw [h9]; first | exact neg2 | exact neg3), h9] | rw [if_neg (by rw [h9]; exact nI_pos (by omega)), h9, nI_clamp (by omega)], rfl⟩)
  · skip
    refine z_casti h9 ?_
    have hk6 := hw.1.2.1 (a / 64)
    refine z_istore_n (lv' := [(2, .int (nI (6 + r.2.1 2 (a / 64)))), (0, .ref (base + 16)), (1, .int (nI a))]) C dX5_size_5 rfl (by decide) rfl ?_
    refine z_iload_n C dX5_size_6 rfl 0 rfl ?_
    refine z_if_ge (tgt := 14) C dX5_size_7 (by decide) (fun h7 => ?_) (fun h7 => absurd h7 (fun q => q (nI_pos' (by omega))))
    refine z_iload_n C dX5_size_14 rfl 0 rfl ?_
    refine z_callS (rest := []) C (m_X5_bytesOf l G base _ (6 + r.2.1 2 (a / 64)) (by omega)) ml_X5_149 kw_X5_bytesOf rfl rfl (by simp [Value.category]) dX5_size_15 (by decide) (by decide) (by decide) (by decide) ?_
    rintro _ _ ⟨rfl, rfl⟩
    refine z_st (st' := [.int (nI (k_bytes (6 + r.2.1 2 (a / 64))))]) rfl ?_
    exact z_iret C hrt rfl dX5_size_18 (by decide) (by decide) (⟨by unfold r_szA; first | rw [if_pos (by rw [h9]; first | exact neg2 | exact neg3), h9] | rw [if_neg (by rw [h9]; exact nI_pos (by omega)), h9, nI_clamp (by omega)], rfl⟩)

set_option maxHeartbeats 4000000 in
set_option maxRecDepth 100000 in
theorem m_X5_free (l : Launch) (G : z_G) (base : Nat) (xs : Nat → va_E) (r : r_T) (tl : List va_E) (nc : Nat) (hw : r_wf r nc) (x : Int32) : z_M l G base yX5_free cX5_free 4 (some .int) 6 0 0 [.ref (base + 16), .int (x)] (hpM G base xs r tl) (fun v hp' => v = some (.int (r_szA r (x))) ∧ hp' = hpM G base xs (r_frS r (x)) tl) := by
  refine z_M.of (lv0 := [(0, .ref (base + 16)), (1, .int (x))]) (by decide) (Nat.le_of_ble_eq_true rfl) rfl ?_
  intro p e s m below meth c hmn hrt C
  refine z_aload_n C dX5_free_0 rfl 0 rfl ?_
  refine z_iload_n C dX5_free_1 rfl 1 rfl ?_
  refine z_callV (rest := []) C (m_X5_classAt l G base xs r tl nc hw (x)) ml_X5_143 kw_X5_classAt rfl rfl rfl rfl (by simp [Value.category]) dX5_free_2 (by decide) (by decide) (by decide) (by decide) ?_
  rintro _ _ ⟨rfl, rfl⟩
  refine z_st (st' := [.int (r_ca r (x))]) rfl ?_
  rcases r_ca_cases hw x with h9 | h9 | ⟨a, P, c0, ha, rfl, hsa, hc6, hc0, hcP, hf0, h9, hP, hPf, hPa, hfl⟩ | ⟨a, ha, rfl, h64, hf0, h9, hPf⟩
  · skip
    refine z_casti h9 ?_
    refine z_istore_n (lv' := [(2, .int ((-2 : Int32))), (0, .ref (base + 16)), (1, .int (x))]) C dX5_free_5 rfl (by decide) rfl ?_
    refine z_iload_n C dX5_free_6 rfl 0 rfl ?_
    refine z_if_ge (tgt := 12) C dX5_free_7 (by decide) (fun h7 => absurd h7 (by decide)) (fun h7 => ?_)
    refine z_iload_n C dX5_free_10 rfl 0 rfl ?_
    exact z_iret C hrt rfl dX5_free_11 (by decide) (by decide) (⟨by unfold r_szA; first | rw [if_pos (by rw [h9]; first | exact neg2 | exact neg3), h9] | rw [if_neg (by rw [h9]; exact nI_pos (by omega)), h9, nI_clamp (by omega)], by unfold r_frS; first | rw [if_pos (by rw [h9]; first | exact neg2 | exact neg3)] | rw [if_neg (by rw [h9]; exact nI_pos (by omega)), h9, nI_clamp (by omega), nI_clamp (by omega)]⟩)
  · skip
    refine z_casti h9 ?_
    refine z_istore_n (lv' := [(2, .int ((-3 : Int32))), (0, .ref (base + 16)), (1, .int (x))]) C dX5_free_5 rfl (by decide) rfl ?_
    refine z_iload_n C dX5_free_6 rfl 0 rfl ?_
    refine z_if_ge (tgt := 12) C dX5_free_7 (by decide) (fun h7 => absurd h7 (by decide)) (fun h7 => ?_)
    refine z_iload_n C dX5_free_10 rfl 0 rfl ?_
    exact z_iret C hrt rfl dX5_free_11 (by decide) (by decide) (⟨by unfold r_szA; first | rw [if_pos (by rw [h9]; first | exact neg2 | exact neg3), h9] | rw [if_neg (by rw [h9]; exact nI_pos (by omega)), h9, nI_clamp (by omega)], by unfold r_frS; first | rw [if_pos (by rw [h9]; first | exact neg2 | exact neg3)] | rw [if_neg (by rw [h9]; exact nI_pos (by omega)), h9, nI_clamp (by omega), nI_clamp (by omega)]⟩)
  · skip
    refine z_casti h9 ?_
    refine z_istore_n (lv' := [(2, .int (nI c0)), (0, .ref (base + 16)), (1, .int (nI a))]) C dX5_free_5 rfl (by decide) rfl ?_
    refine z_iload_n C dX5_free_6 rfl 0 rfl ?_
    refine z_if_ge (tgt := 12) C dX5_free_7 (by decide) (fun h7 => ?_) (fun h7 => absurd h7 (fun q => q (nI_pos' (by omega))))
    refine z_aload_n C dX5_free_12 rfl 1 rfl ?_
    refine z_iload_n C dX5_free_13 rfl 2 rfl ?_
    refine z_iload_n C dX5_free_14 rfl 0 rfl ?_
    refine z_callV (rest := []) C (m_X5_release l G base xs r tl nc hw a P c0 ha hsa hc6 hc0 hcP hP hPf hPa hfl) ml_X5_146 kw_X5_release rfl rfl rfl rfl (by simp [Value.category]) dX5_free_15 (by decide) (by decide) (by decide) (by decide) ?_
    rintro _ _ ⟨rfl, rfl⟩
    refine z_st (st' := [.int (nI (r_ob r c0 - (r.2.1 4 P + 1)))]) rfl ?_
    have hob64 := (hw.2.1 c0 hc0).2.2.2.2
    refine z_istore_n (lv' := [(3, .int (nI (r_ob r c0 - (r.2.1 4 P + 1)))), (2, .int (nI c0)), (0, .ref (base + 16)), (1, .int (nI a))]) C dX5_free_18 rfl (by decide) rfl ?_
    refine z_iload_n C dX5_free_19 rfl 0 rfl ?_
    refine z_if_ge (tgt := 27) C dX5_free_20 (by decide) (fun h20 => ?_) (fun h20 => absurd h20 (fun q => q (nI_pos' (by omega))))
    refine z_iload_n C dX5_free_27 rfl 1 rfl ?_
    refine z_callS (rest := []) C (m_X5_bytesOf l G base _ c0 (by omega)) ml_X5_149 kw_X5_bytesOf rfl rfl (by simp [Value.category]) dX5_free_28 (by decide) (by decide) (by decide) (by decide) ?_
    rintro _ _ ⟨rfl, rfl⟩
    refine z_st (st' := [.int (nI (k_bytes c0))]) rfl ?_
    exact z_iret C hrt rfl dX5_free_31 (by decide) (by decide) (⟨by unfold r_szA; first | rw [if_pos (by rw [h9]; first | exact neg2 | exact neg3), h9] | rw [if_neg (by rw [h9]; exact nI_pos (by omega)), h9, nI_clamp (by omega)], by unfold r_frS; first | rw [if_pos (by rw [h9]; first | exact neg2 | exact neg3)] | rw [if_neg (by rw [h9]; exact nI_pos (by omega)), h9, nI_clamp (by omega), nI_clamp (by omega)]⟩)
  · skip
    refine z_casti h9 ?_
    have hk6 := hw.1.2.1 (a / 64)
    refine z_istore_n (lv' := [(2, .int (nI (6 + r.2.1 2 (a / 64)))), (0, .ref (base + 16)), (1, .int (nI a))]) C dX5_free_5 rfl (by decide) rfl ?_
    refine z_iload_n C dX5_free_6 rfl 0 rfl ?_
    refine z_if_ge (tgt := 12) C dX5_free_7 (by decide) (fun h7 => ?_) (fun h7 => absurd h7 (fun q => q (nI_pos' (by omega))))
    refine z_aload_n C dX5_free_12 rfl 1 rfl ?_
    refine z_iload_n C dX5_free_13 rfl 2 rfl ?_
    refine z_iload_n C dX5_free_14 rfl 0 rfl ?_
    refine z_callV (rest := []) C (m_X5_release_2 l G base xs r tl nc hw a (6 + r.2.1 2 (a / 64)) ha (by omega) (by omega) hPf) ml_X5_146 kw_X5_release rfl rfl rfl rfl (by simp [Value.category]) dX5_free_15 (by decide) (by decide) (by decide) (by decide) ?_
    rintro _ _ ⟨rfl, rfl⟩
    refine z_st (st' := [.int (nI (2 ^ r.2.1 2 (a / 64)))]) rfl ?_
    have hp64 := two_le (r.2.1 2 (a / 64)) (by omega)
    refine z_istore_n (lv' := [(3, .int (nI (2 ^ r.2.1 2 (a / 64)))), (2, .int (nI (6 + r.2.1 2 (a / 64)))), (0, .ref (base + 16)), (1, .int (nI a))]) C dX5_free_18 rfl (by decide) rfl ?_
    refine z_iload_n C dX5_free_19 rfl 0 rfl ?_
    refine z_if_ge (tgt := 27) C dX5_free_20 (by decide) (fun h20 => ?_) (fun h20 => absurd h20 (fun q => q (nI_pos' (by omega))))
    refine z_iload_n C dX5_free_27 rfl 1 rfl ?_
    refine z_callS (rest := []) C (m_X5_bytesOf l G base _ (6 + r.2.1 2 (a / 64)) (by omega)) ml_X5_149 kw_X5_bytesOf rfl rfl (by simp [Value.category]) dX5_free_28 (by decide) (by decide) (by decide) (by decide) ?_
    rintro _ _ ⟨rfl, rfl⟩
    refine z_st (st' := [.int (nI (k_bytes (6 + r.2.1 2 (a / 64))))]) rfl ?_
    exact z_iret C hrt rfl dX5_free_31 (by decide) (by decide) (⟨by unfold r_szA; first | rw [if_pos (by rw [h9]; first | exact neg2 | exact neg3), h9] | rw [if_neg (by rw [h9]; exact nI_pos (by omega)), h9, nI_clamp (by omega)], by unfold r_frS; first | rw [if_pos (by rw [h9]; first | exact neg2 | exact neg3)] | rw [if_neg (by rw [h9]; exact nI_pos (by omega)), h9, nI_clamp (by omega), nI_clamp (by omega)]⟩)
