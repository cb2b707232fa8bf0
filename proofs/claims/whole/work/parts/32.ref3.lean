set_option maxHeartbeats 4000000 in
set_option maxRecDepth 100000 in
theorem m_X5_slabAt (l : Launch) (G : z_G) (base : Nat) (xs : Nat → va_E) (r : r_T) (tl : List va_E) (hfo : ∀ p, r.2.1 1 p < 256) (x : Int32) : z_M l G base yX5_slabAt cX5_slabAt 4 (some .int) 0 0 0 [.ref (base + 16), .int (x)] (hpM G base xs r tl) (fun v hp' => v = some (.int (oI (r_sa r (x)))) ∧ hp' = hpM G base xs r tl) := by
  refine z_M.of (lv0 := [(0, .ref (base + 16)), (1, .int (x))]) (by decide) (Nat.le_of_ble_eq_true rfl) rfl ?_
  intro p e s m below meth c hmn hrt C
  refine z_iload_n C dX5_slabAt_0 rfl 1 rfl ?_
  refine z_bipush (v := 64) C dX5_slabAt_1 (by decide) ?_
  refine z_idiv C dX5_slabAt_3 (by decide) ?_
  refine z_topi (fun w2 ew2 => ?_)
  refine z_istore_n (lv' := [(2, .int (w2)), (0, .ref (base + 16)), (1, .int (x))]) C dX5_slabAt_4 rfl (by decide) rfl ?_
  refine z_aload_n C dX5_slabAt_5 rfl 1 rfl ?_
  refine z_get C fl_X5_58 dX5_slabAt_6 rfl rfl ?_
  refine z_if_eq (tgt := 32) C dX5_slabAt_9 (by decide) (fun h9 => ?_) (fun h9 => ?_)
  · skip
    refine z_iconst (v := -1) C dX5_slabAt_32 (by decide) ?_
    exact z_iret C hrt rfl dX5_slabAt_33 (by decide) (by decide) (by first | exact ⟨by rw [show r_sa r x = none from sa_out (fun q => q.1 h9)]; rfl, rfl⟩ | exact ⟨by rw [show r_sa r x = none from sa_out (fun q => absurd h13 (Int32.not_lt.mpr q.2.1.1))]; rfl, rfl⟩ | exact ⟨by rw [show r_sa r (nI a) = none from sa_out (fun q => hbig q.2.1)]; rfl, rfl⟩ | exact ⟨by rw [show r_sa r (nI a) = none from sa_out (fun q => q.2.2 (by rw [hcl]; exact h29))]; rfl, rfl⟩)
  · skip
    refine z_iload_n C dX5_slabAt_12 rfl 2 rfl ?_
    refine z_if_lt (tgt := 32) C dX5_slabAt_13 (by decide) (fun h13 => ?_) (fun h13 => ?_)
    · skip
      refine z_iconst (v := -1) C dX5_slabAt_32 (by decide) ?_
      exact z_iret C hrt rfl dX5_slabAt_33 (by decide) (by decide) (by first | exact ⟨by rw [show r_sa r x = none from sa_out (fun q => q.1 h9)]; rfl, rfl⟩ | exact ⟨by rw [show r_sa r x = none from sa_out (fun q => absurd h13 (Int32.not_lt.mpr q.2.1.1))]; rfl, rfl⟩ | exact ⟨by rw [show r_sa r (nI a) = none from sa_out (fun q => hbig q.2.1)]; rfl, rfl⟩ | exact ⟨by rw [show r_sa r (nI a) = none from sa_out (fun q => q.2.2 (by rw [hcl]; exact h29))]; rfl, rfl⟩)
    · skip
      obtain ⟨a, ha, rfl⟩ := nI_of h13
      have ew : w2 = nI (a / 64) := by rw [ew2]; exact pk_div ha (d := 64) (by decide) (by decide)
      subst ew
      have hcl : (nI a).toNatClampNeg = a := nI_clamp ha
      refine z_iload_n C dX5_slabAt_16 rfl 0 rfl ?_
      refine z_sipush (v := 256) C dX5_slabAt_17 (by decide) ?_
      refine z_icmp_ge (tgt := 32) C dX5_slabAt_20 (by decide) (fun h20 => ?_) (fun h20 => ?_)
      · skip
        have hbig : ¬ (0 ≤ nI a ∧ nI a ≤ 16383) := fun q => by
          have h1 := (nI_leI ha (by decide)).mp (show nI a ≤ nI 16383 from q.2)
          exact absurd h20 (nI_ge (b := 256) (by omega) (by decide))
        refine z_iconst (v := -1) C dX5_slabAt_32 (by decide) ?_
        exact z_iret C hrt rfl dX5_slabAt_33 (by decide) (by decide) (by first | exact ⟨by rw [show r_sa r x = none from sa_out (fun q => q.1 h9)]; rfl, rfl⟩ | exact ⟨by rw [show r_sa r x = none from sa_out (fun q => absurd h13 (Int32.not_lt.mpr q.2.1.1))]; rfl, rfl⟩ | exact ⟨by rw [show r_sa r (nI a) = none from sa_out (fun q => hbig q.2.1)]; rfl, rfl⟩ | exact ⟨by rw [show r_sa r (nI a) = none from sa_out (fun q => q.2.2 (by rw [hcl]; exact h29))]; rfl, rfl⟩)
      · skip
        have hdl : a / 64 < 256 := by
          rcases Nat.lt_or_ge (a / 64) 256 with q9 | q9
          · exact q9
          · exact absurd (nI_le (a := 256) q9 (by omega)) h20
        have hin : (0 : Int32) ≤ nI a ∧ nI a ≤ 16383 := in_nI (M := 16383) (by decide) (by omega)
        refine z_aload_n C dX5_slabAt_23 rfl 1 rfl ?_
        refine z_get C fl_X5_13 dX5_slabAt_24 rfl rfl ?_
        refine z_iload_n C dX5_slabAt_27 rfl 0 rfl ?_
        refine z_zaldN C dX5_slabAt_28 rfl (by omega) (by decide) ?_
        refine z_if_ne (tgt := 34) C dX5_slabAt_29 (by decide) (fun h29 => ?_) (fun h29 => ?_)
        · skip
          have hf := hfo (a / 64)
          refine z_aload_n C dX5_slabAt_34 rfl 1 rfl ?_
          refine z_get C fl_X5_17 dX5_slabAt_35 rfl rfl ?_
          refine z_iload_n C dX5_slabAt_38 rfl 0 rfl ?_
          refine z_ialdK C dX5_slabAt_39 rfl (by omega) (by decide) ?_
          refine z_istore_n (lv' := [(3, .int (nI (((r.2.1 1)) (a / 64)))), (2, .int (nI (a / 64))), (0, .ref (base + 16)), (1, .int (nI a))]) C dX5_slabAt_40 rfl (by decide) rfl ?_
          refine z_aload_n C dX5_slabAt_41 rfl 2 rfl ?_
          refine z_get C fl_X5_23 dX5_slabAt_42 rfl rfl ?_
          refine z_iload_n C dX5_slabAt_45 rfl 0 rfl ?_
          refine z_zaldN C dX5_slabAt_46 rfl (by omega) (by decide) ?_
          refine z_if_eq (tgt := 63) C dX5_slabAt_47 (by decide) (fun h47 => ?_) (fun h47 => ?_)
          · skip
            refine z_iconst (v := -1) C dX5_slabAt_63 (by decide) ?_
            exact z_iret C hrt rfl dX5_slabAt_64 (by decide) (by decide) (⟨by unfold r_sa; rw [if_pos ⟨h9, hin, by rw [hcl]; exact h29⟩, hcl]; first | (rw [if_neg (by first | exact fun q => q.1 h47 | exact fun q => absurd h56 (Int32.not_lt.mpr q.2))]; rfl) | (rw [if_pos ⟨h47, Int32.not_lt.mp h56⟩]; rfl), rfl⟩)
          · skip
            refine z_aload_n C dX5_slabAt_50 rfl 2 rfl ?_
            refine z_get C fl_X5_26 dX5_slabAt_51 rfl rfl ?_
            refine z_iload_n C dX5_slabAt_54 rfl 0 rfl ?_
            refine z_ialdN C dX5_slabAt_55 rfl (by omega) (by decide) ?_
            refine z_if_lt (tgt := 63) C dX5_slabAt_56 (by decide) (fun h56 => ?_) (fun h56 => ?_)
            · skip
              refine z_iconst (v := -1) C dX5_slabAt_63 (by decide) ?_
              exact z_iret C hrt rfl dX5_slabAt_64 (by decide) (by decide) (⟨by unfold r_sa; rw [if_pos ⟨h9, hin, by rw [hcl]; exact h29⟩, hcl]; first | (rw [if_neg (by first | exact fun q => q.1 h47 | exact fun q => absurd h56 (Int32.not_lt.mpr q.2))]; rfl) | (rw [if_pos ⟨h47, Int32.not_lt.mp h56⟩]; rfl), rfl⟩)
            · skip
              refine z_iload_n C dX5_slabAt_59 rfl 0 rfl ?_
              refine z_goto (tgt := 64) C dX5_slabAt_60 (by decide) ?_
              exact z_iret C hrt rfl dX5_slabAt_64 (by decide) (by decide) (⟨by unfold r_sa; rw [if_pos ⟨h9, hin, by rw [hcl]; exact h29⟩, hcl]; first | (rw [if_neg (by first | exact fun q => q.1 h47 | exact fun q => absurd h56 (Int32.not_lt.mpr q.2))]; rfl) | (rw [if_pos ⟨h47, Int32.not_lt.mp h56⟩]; rfl), rfl⟩)
        · skip
          refine z_iconst (v := -1) C dX5_slabAt_32 (by decide) ?_
          exact z_iret C hrt rfl dX5_slabAt_33 (by decide) (by decide) (by first | exact ⟨by rw [show r_sa r x = none from sa_out (fun q => q.1 h9)]; rfl, rfl⟩ | exact ⟨by rw [show r_sa r x = none from sa_out (fun q => absurd h13 (Int32.not_lt.mpr q.2.1.1))]; rfl, rfl⟩ | exact ⟨by rw [show r_sa r (nI a) = none from sa_out (fun q => hbig q.2.1)]; rfl, rfl⟩ | exact ⟨by rw [show r_sa r (nI a) = none from sa_out (fun q => q.2.2 (by rw [hcl]; exact h29))]; rfl, rfl⟩)

set_option maxHeartbeats 4000000 in
set_option maxRecDepth 100000 in
theorem m_X5_faultOfObject (l : Launch) (G : z_G) (base : Nat) (xs : Nat → va_E) (r : r_T) (tl : List va_E) (P a c0 : Nat) (hP : P < 256) (ha : 64 * P ≤ a) (ha2 : a < 16384) (hcz : r.2.2 2 P = nI c0) (hc : c0 < 12) (hs : 1 ≤ r.2.1 7 c0) (hs2 : r.2.1 7 c0 < 65536) (ho : r.2.1 8 c0 ≤ 4) (hn : r.2.1 4 P ≤ 64) (hrw : ∀ i, r.2.1 3 i < 65536) : z_M l G base yX5_faultOfObject cX5_faultOfObject 7 (some .int) 1 0 0 [.ref (base + 16), .int (nI P), .int (nI a)] (hpM G base xs r tl) (fun v hp' => v = some (.int (r_fob r P a c0)) ∧ hp' = hpM G base xs r tl) := by
  refine z_M.of (lv0 := [(0, .ref (base + 16)), (1, .int (nI P)), (2, .int (nI a))]) (by decide) (Nat.le_of_ble_eq_true rfl) rfl ?_
  intro p e s m below meth c hmn hrt C
  have hob : r_ob r c0 ≤ 64 * 2 ^ r.2.1 8 c0 := Nat.div_le_self _ _
  have hp2 := two_le (r.2.1 8 c0) (by omega)
  have hdv : (a - 64 * P) / r.2.1 7 c0 ≤ a - 64 * P := Nat.div_le_self _ _
  have hmd : (a - 64 * P) % r.2.1 7 c0 < r.2.1 7 c0 := Nat.mod_lt _ hs
  refine z_aload_n C dX5_faultOfObject_0 rfl 0 rfl ?_
  refine z_get C fl_X5_26 dX5_faultOfObject_1 rfl rfl ?_
  refine z_iload_n C dX5_faultOfObject_4 rfl 1 rfl ?_
  refine z_ialdN C dX5_faultOfObject_5 rfl (by omega) (by decide) ?_
  refine z_casti (y := nI c0) (hcz) ?_
  refine z_istore_n (lv' := [(3, .int (nI c0)), (0, .ref (base + 16)), (1, .int (nI P)), (2, .int (nI a))]) C dX5_faultOfObject_6 rfl (by decide) rfl ?_
  refine z_iload_n C dX5_faultOfObject_7 rfl 3 rfl ?_
  refine z_bipush (v := 64) C dX5_faultOfObject_8 (by decide) ?_
  refine z_iload_n C dX5_faultOfObject_10 rfl 2 rfl ?_
  refine z_imul C dX5_faultOfObject_11 ?_
  refine z_casti (y := nI (64 * P)) (pk_mul 64 P) ?_
  refine z_isub C dX5_faultOfObject_12 ?_
  refine z_casti (y := nI (a - 64 * P)) (pk_sub ha) ?_
  refine z_istore (lv' := [(4, .int (nI (a - 64 * P))), (3, .int (nI c0)), (0, .ref (base + 16)), (1, .int (nI P)), (2, .int (nI a))]) C dX5_faultOfObject_13 (by decide) rfl ?_
  refine z_iload C dX5_faultOfObject_15 0 rfl ?_
  refine z_aload_n C dX5_faultOfObject_17 rfl 2 rfl ?_
  refine z_get C fl_X5_41 dX5_faultOfObject_18 rfl rfl ?_
  refine z_iload_n C dX5_faultOfObject_21 rfl 1 rfl ?_
  refine z_ialdK C dX5_faultOfObject_22 rfl (by omega) (by decide) ?_
  refine z_idiv C dX5_faultOfObject_23 (nI_ne0 hs (by omega)) ?_
  refine z_casti (y := nI ((a - 64 * P) / r.2.1 7 c0)) (pk_div (by omega) hs (by omega)) ?_
  refine z_istore (lv' := [(5, .int (nI ((a - 64 * P) / r.2.1 7 c0))), (4, .int (nI (a - 64 * P))), (3, .int (nI c0)), (0, .ref (base + 16)), (1, .int (nI P)), (2, .int (nI a))]) C dX5_faultOfObject_24 (by decide) rfl ?_
  refine z_iload C dX5_faultOfObject_26 1 rfl ?_
  refine z_aload_n C dX5_faultOfObject_28 rfl 3 rfl ?_
  refine z_get C fl_X5_41 dX5_faultOfObject_29 rfl rfl ?_
  refine z_iload_n C dX5_faultOfObject_32 rfl 2 rfl ?_
  refine z_ialdK C dX5_faultOfObject_33 rfl (by omega) (by decide) ?_
  refine z_irem C dX5_faultOfObject_34 (nI_ne0 hs (by omega)) ?_
  refine z_casti (y := nI ((a - 64 * P) % r.2.1 7 c0)) (pk_rem (by omega) hs (by omega)) ?_
  refine z_if_ne (tgt := 48) C dX5_faultOfObject_35 (by decide) (fun h35 => ?_) (fun h35 => ?_)
  · skip
    refine z_bipush (v := -2) C dX5_faultOfObject_48 (by decide) ?_
    exact z_iret C hrt rfl dX5_faultOfObject_50 (by decide) (by decide) (⟨by unfold r_fob; rw [if_neg (by first | exact fun q => h35 (by rw [q.1]; rfl) | exact fun q => h45 (nI_lt q.2 (by omega)))], rfl⟩)
  · skip
    have hm0 : (a - 64 * P) % r.2.1 7 c0 = 0 := (nI_eq (b := 0) (by omega) (by decide)).mp h35
    refine z_iload C dX5_faultOfObject_38 0 rfl ?_
    refine z_aload_n C dX5_faultOfObject_40 rfl 3 rfl ?_
    refine z_iload_n C dX5_faultOfObject_41 rfl 2 rfl ?_
    refine z_callV (rest := [.int (nI ((a - 64 * P) / r.2.1 7 c0))]) C (m_X5_objectsOf l G base xs r tl c0 hc hs hs2 ho) ml_X5_113 kw_X5_objectsOf rfl rfl rfl rfl (by simp [Value.category]) dX5_faultOfObject_42 (by decide) (by decide) (by decide) (by decide) ?_
    rintro _ _ ⟨rfl, rfl⟩
    refine z_st (st' := [.int (nI (r_ob r c0)), .int (nI ((a - 64 * P) / r.2.1 7 c0))]) rfl ?_
    refine z_icmp_lt (tgt := 51) C dX5_faultOfObject_45 (by decide) (fun h45 => ?_) (fun h45 => ?_)
    · skip
      have hlt : (a - 64 * P) / r.2.1 7 c0 < r_ob r c0 := (nI_ltI (by omega) (by omega)).mp h45
      refine z_iconst (v := 0) C dX5_faultOfObject_51 (by decide) ?_
      refine z_casti (y := nI 0) (rfl) ?_
      refine z_istore (lv' := [(6, .int (nI 0)), (5, .int (nI ((a - 64 * P) / r.2.1 7 c0))), (4, .int (nI (a - 64 * P))), (3, .int (nI c0)), (0, .ref (base + 16)), (1, .int (nI P)), (2, .int (nI a))]) C dX5_faultOfObject_52 (by decide) rfl ?_
      refine z_lv (lv' := [(6, .int (nI 0)), (0, .ref (base + 16)), (1, .int (nI P)), (5, .int (nI ((a - 64 * P) / r.2.1 7 c0)))]) [0, 4, 5, 1] rfl ?_
      have loop : ∀ (n : Nat) (j : Nat), (j ≤ r.2.1 4 P) → (r.2.1 4 P + 1 ≤ n + j) → (r_has (r.2.1 3) (64 * P) ((a - 64 * P) / r.2.1 7 c0) (r.2.1 4 P - j) j = r_has (r.2.1 3) (64 * P) ((a - 64 * P) / r.2.1 7 c0) (r.2.1 4 P) 0) → z_R p l e (z_rm 1 0 0) s m ([Value.ref (base + 16), .int (nI P), .int (nI a)] : List Value).toArray below meth c (MQ below (z_Qc G base (fun v hp' => v = some (.int (r_fob r P a c0)) ∧ hp' = hpM G base xs r tl)) ([Value.ref (base + 16), .int (nI P), .int (nI a)] : List Value).toArray s 0 0 (fun z => base ≤ z)) G base 7 0 0 54 [(6, .int (nI j)), (0, .ref (base + 16)), (1, .int (nI P)), (5, .int (nI ((a - 64 * P) / r.2.1 7 c0)))] [] (hpM G base xs r tl) := by
        intro n
        induction n with
        | zero => intro j hj hn0 hv; exact absurd hn0 (by omega)
        | succ n ih =>
          intro j hj hn0 hv
          refine z_iload C dX5_faultOfObject_54 0 rfl ?_
          refine z_aload_n C dX5_faultOfObject_56 rfl 1 rfl ?_
          refine z_get C fl_X5_32 dX5_faultOfObject_57 rfl rfl ?_
          refine z_iload_n C dX5_faultOfObject_60 rfl 2 rfl ?_
          refine z_ialdK C dX5_faultOfObject_61 rfl (by omega) (by decide) ?_
          refine z_icmp_ge (tgt := 91) C dX5_faultOfObject_62 (by decide) (fun h62 => ?_) (fun h62 => ?_)
          · skip
            have hje : j = r.2.1 4 P := by
              rcases Nat.lt_or_ge j (r.2.1 4 P) with q9 | q9
              · exact absurd h62 (nI_ge q9 (by omega))
              · omega
            refine z_iconst (v := 0) C dX5_faultOfObject_91 (by decide) ?_
            exact z_iret C hrt rfl dX5_faultOfObject_92 (by decide) (by decide) (⟨by unfold r_fob; rw [if_pos ⟨hm0, hlt⟩, if_neg (by rw [← hv, hje, Nat.sub_self]; exact Bool.false_ne_true)], rfl⟩)
          · skip
            have hjl : j < r.2.1 4 P := by
              rcases Nat.lt_or_ge j (r.2.1 4 P) with q9 | q9
              · exact q9
              · exact absurd (nI_le q9 (by omega)) h62
            refine z_aload_n C dX5_faultOfObject_65 rfl 1 rfl ?_
            refine z_get C fl_X5_29 dX5_faultOfObject_66 rfl rfl ?_
            refine z_bipush (v := 64) C dX5_faultOfObject_69 (by decide) ?_
            refine z_iload_n C dX5_faultOfObject_71 rfl 2 rfl ?_
            refine z_imul C dX5_faultOfObject_72 ?_
            refine z_casti (y := nI (64 * P)) (pk_mul 64 P) ?_
            refine z_iload C dX5_faultOfObject_73 0 rfl ?_
            refine z_iadd C dX5_faultOfObject_75 ?_
            refine z_casti (y := nI (64 * P + j)) (nI_add _ _) ?_
            refine z_ialdK C dX5_faultOfObject_76 rfl (by omega) (by decide) ?_
            refine z_iload C dX5_faultOfObject_77 3 rfl ?_
            refine z_icmp_ne (tgt := 85) C dX5_faultOfObject_79 (by decide) (fun h79 => ?_) (fun h79 => ?_)
            · skip
              refine z_iinc (k := 0) (v := nI (j + 1)) (lv' := [(6, .int (nI (j + 1))), (0, .ref (base + 16)), (1, .int (nI P)), (5, .int (nI ((a - 64 * P) / r.2.1 7 c0)))]) C dX5_faultOfObject_85 rfl (nI_1 j) (by decide) rfl ?_
              refine z_goto (tgt := 54) C dX5_faultOfObject_88 (by decide) ?_
              refine z_lv (lv' := [(6, .int (nI (j + 1))), (0, .ref (base + 16)), (1, .int (nI P)), (5, .int (nI ((a - 64 * P) / r.2.1 7 c0)))]) [0, 1, 2, 3] rfl ?_
              exact ih (j + 1) (by omega) (by omega) (by rw [← hv, show r.2.1 4 P - j = (r.2.1 4 P - (j + 1)) + 1 by omega]; show _ = (decide _ || _); rw [decide_eq_false (fun q => h79 (by rw [q])), Bool.false_or])
            · skip
              refine z_bipush (v := -3) C dX5_faultOfObject_82 (by decide) ?_
              exact z_iret C hrt rfl dX5_faultOfObject_84 (by decide) (by decide) (⟨by unfold r_fob; rw [if_pos ⟨hm0, hlt⟩, if_pos (by rw [← hv, show r.2.1 4 P - j = (r.2.1 4 P - (j + 1)) + 1 by omega]; show (decide _ || _) = true; rw [decide_eq_true ((nI_eq (by have := hrw (64 * P + j); omega) (by omega)).mp h79), Bool.true_or])], rfl⟩)
      exact loop (r.2.1 4 P + 1) 0 (by omega) (by omega) rfl
    · skip
      refine z_bipush (v := -2) C dX5_faultOfObject_48 (by decide) ?_
      exact z_iret C hrt rfl dX5_faultOfObject_50 (by decide) (by decide) (⟨by unfold r_fob; rw [if_neg (by first | exact fun q => h35 (by rw [q.1]; rfl) | exact fun q => h45 (nI_lt q.2 (by omega)))], rfl⟩)

set_option maxHeartbeats 4000000 in
set_option maxRecDepth 100000 in
theorem m_X5_giveObject (l : Launch) (G : z_G) (base : Nat) (xs : Nat → va_E) (r : r_T) (tl : List va_E) (hfo : ∀ p, r.2.1 1 p < 256) (hoo : ∀ p, r.2.1 2 p ≤ 6) (P a c0 : Nat) (hP : P < 256) (ha : 64 * P ≤ a) (ha2 : a < 16384) (hcz : r.2.2 2 P = nI c0) (hc : c0 < 12) (hs : 1 ≤ r.2.1 7 c0) (hs2 : r.2.1 7 c0 < 65536) (ho : r.2.1 8 c0 ≤ 4) (hn : r.2.1 4 P + 1 ≤ r_ob r c0) (hob : r_ob r c0 ≤ 64) (hPa : P % 2 ^ r.2.1 2 P = 0) : z_M l G base yX5_giveObject cX5_giveObject 6 (some .int) 4 0 0 [.ref (base + 16), .int (nI P), .int (nI a)] (hpM G base xs r tl) (fun v hp' => v = some (.int (nI (r_ob r c0 - (r.2.1 4 P + 1)))) ∧ hp' = hpM G base xs (r_goS r P ((a - 64 * P) / r.2.1 7 c0) c0) tl) := by
  refine z_M.of (lv0 := [(0, .ref (base + 16)), (1, .int (nI P)), (2, .int (nI a))]) (by decide) (Nat.le_of_ble_eq_true rfl) rfl ?_
  intro p e s m below meth c hmn hrt C
  refine z_aload_n C dX5_giveObject_0 rfl 0 rfl ?_
  refine z_get C fl_X5_26 dX5_giveObject_1 rfl rfl ?_
  refine z_iload_n C dX5_giveObject_4 rfl 1 rfl ?_
  refine z_ialdN C dX5_giveObject_5 rfl (by omega) (by decide) ?_
  refine z_casti (y := nI c0) (hcz) ?_
  refine z_istore_n (lv' := [(3, .int (nI c0)), (0, .ref (base + 16)), (1, .int (nI P)), (2, .int (nI a))]) C dX5_giveObject_6 rfl (by decide) rfl ?_
  refine z_aload_n C dX5_giveObject_7 rfl 1 rfl ?_
  refine z_get C fl_X5_29 dX5_giveObject_8 rfl rfl ?_
  refine z_bipush (v := 64) C dX5_giveObject_11 (by decide) ?_
  refine z_iload_n C dX5_giveObject_13 rfl 2 rfl ?_
  refine z_imul C dX5_giveObject_14 ?_
  refine z_casti (y := nI (64 * P)) (pk_mul 64 P) ?_
  refine z_aload_n C dX5_giveObject_15 rfl 1 rfl ?_
  refine z_get C fl_X5_32 dX5_giveObject_16 rfl rfl ?_
  refine z_iload_n C dX5_giveObject_19 rfl 2 rfl ?_
  refine z_ialdK C dX5_giveObject_20 rfl (by omega) (by decide) ?_
  refine z_iadd C dX5_giveObject_21 ?_
  refine z_casti (y := nI (64 * P + r.2.1 4 P)) (nI_add _ _) ?_
  refine z_iload_n C dX5_giveObject_22 rfl 3 rfl ?_
  refine z_bipush (v := 64) C dX5_giveObject_23 (by decide) ?_
  refine z_iload_n C dX5_giveObject_25 rfl 2 rfl ?_
  refine z_imul C dX5_giveObject_26 ?_
  refine z_casti (y := nI (64 * P)) (pk_mul 64 P) ?_
  refine z_isub C dX5_giveObject_27 ?_
  refine z_casti (y := nI (a - 64 * P)) (pk_sub ha) ?_
  refine z_aload_n C dX5_giveObject_28 rfl 1 rfl ?_
  refine z_get C fl_X5_41 dX5_giveObject_29 rfl rfl ?_
  refine z_iload_n C dX5_giveObject_32 rfl 0 rfl ?_
  refine z_ialdK C dX5_giveObject_33 rfl (by omega) (by decide) ?_
  refine z_idiv C dX5_giveObject_34 (nI_ne0 hs (by omega)) ?_
  refine z_casti (y := nI ((a - 64 * P) / r.2.1 7 c0)) (pk_div (by omega) hs (by omega)) ?_
  refine z_iastK C dX5_giveObject_35 rfl (by omega) (by decide) ?_
  refine z_aload_n C dX5_giveObject_36 rfl 1 rfl ?_
  refine z_get C fl_X5_32 dX5_giveObject_37 rfl rfl ?_
  refine z_iload_n C dX5_giveObject_40 rfl 2 rfl ?_
  refine z_dup2 C dX5_giveObject_41 rfl rfl ?_
  refine z_ialdK C dX5_giveObject_42 rfl (by omega) (by decide) ?_
  refine z_iconst (v := 1) C dX5_giveObject_43 (by decide) ?_
  refine z_iadd C dX5_giveObject_44 ?_
  refine z_casti (y := nI (r.2.1 4 P + 1)) (nI_1 _) ?_
  refine z_iastK C dX5_giveObject_45 rfl (by omega) (by decide) ?_
  refine z_hp (hp' := hpM G base xs (r_go1 r P ((a - 64 * P) / r.2.1 7 c0)) tl) (rfl) ?_
  refine z_aload_n C dX5_giveObject_46 rfl 1 rfl ?_
  refine z_iload_n C dX5_giveObject_47 rfl 2 rfl ?_
  refine z_callV (rest := []) C (m_X5_liveOf l G base xs (r_go1 r P ((a - 64 * P) / r.2.1 7 c0)) tl P c0 hP hcz hc hs hs2 ho (by show va_up (r.2.1 4) P (r.2.1 4 P + 1) P ≤ r_ob r c0; rw [va_up_self]; exact hn)) ml_X5_122 kw_X5_liveOf rfl rfl rfl rfl (by simp [Value.category]) dX5_giveObject_48 (by decide) (by decide) (by decide) (by decide) ?_
  rintro _ _ ⟨rfl, rfl⟩
  rw [show r_ob (r_go1 r P ((a - 64 * P) / r.2.1 7 c0)) c0 - (r_go1 r P ((a - 64 * P) / r.2.1 7 c0)).2.1 4 P = r_ob r c0 - (r.2.1 4 P + 1) by show r_ob r c0 - va_up (r.2.1 4) P (r.2.1 4 P + 1) P = _; rw [va_up_self]]
  refine z_st (st' := [.int (nI (r_ob r c0 - (r.2.1 4 P + 1)))]) rfl ?_
  refine z_istore (lv' := [(4, .int (nI (r_ob r c0 - (r.2.1 4 P + 1)))), (3, .int (nI c0)), (0, .ref (base + 16)), (1, .int (nI P)), (2, .int (nI a))]) C dX5_giveObject_51 (by decide) rfl ?_
  refine z_iload C dX5_giveObject_53 0 rfl ?_
  refine z_if_ne (tgt := 77) C dX5_giveObject_55 (by decide) (fun h55 => ?_) (fun h55 => ?_)
  · skip
    have hl1 : ¬ r_ob r c0 - (r.2.1 4 P + 1) = 0 := fun q => h55 (by rw [q]; rfl)
    refine z_iload C dX5_giveObject_77 0 rfl ?_
    refine z_if_ne (tgt := 100) C dX5_giveObject_79 (by decide) (fun h79 => ?_) (fun h79 => absurd h79 (h55))
    refine z_iload C dX5_giveObject_100 0 rfl ?_
    exact z_iret C hrt rfl dX5_giveObject_102 (by decide) (by decide) (by first | exact ⟨rfl, by unfold r_goS; rw [if_neg hl1]⟩ | exact ⟨rfl, by unfold r_goS; rw [if_pos hl0, if_pos (show r.2.2 3 c0 < 0 from Int32.not_le.mp h64)]; rfl⟩)
  · skip
    have hl0 : r_ob r c0 - (r.2.1 4 P + 1) = 0 := (nI_eq (b := 0) (by omega) (by decide)).mp h55
    refine z_aload_n C dX5_giveObject_58 rfl 2 rfl ?_
    refine z_get C fl_X5_47 dX5_giveObject_59 rfl rfl ?_
    refine z_iload_n C dX5_giveObject_62 rfl 1 rfl ?_
    refine z_ialdN C dX5_giveObject_63 rfl (by omega) (by decide) ?_
    refine z_if_ge (tgt := 77) C dX5_giveObject_64 (by decide) (fun h64 => ?_) (fun h64 => ?_)
    · skip
      refine z_iload C dX5_giveObject_77 0 rfl ?_
      refine z_if_ne (tgt := 100) C dX5_giveObject_79 (by decide) (fun h79 => absurd h79 (fun q => q (by rw [hl0]; rfl))) (fun h79 => ?_)
      refine z_aload_n C dX5_giveObject_82 rfl 2 rfl ?_
      refine z_iload_n C dX5_giveObject_83 rfl 3 rfl ?_
      refine z_callV (rest := []) C (m_X5_giveBlock l G base xs (r_go1 r P ((a - 64 * P) / r.2.1 7 c0)) tl hfo hoo P hP hPa) ml_X5_107 kw_X5_giveBlock rfl rfl rfl rfl (by simp [Value.category]) dX5_giveObject_84 (by decide) (by decide) (by decide) (by decide) ?_
      rintro _ _ ⟨rfl, rfl⟩
      refine z_st (st' := [.int (nI (2 ^ r.2.1 2 P))]) rfl ?_
      have hp6 := hoo P
      have hp7 := two_le (r.2.1 2 P) (by omega)
      have hp8 := Nat.two_pow_pos (r.2.1 2 P)
      refine z_istore (lv' := [(5, .int (nI (2 ^ r.2.1 2 P))), (4, .int (nI (r_ob r c0 - (r.2.1 4 P + 1)))), (3, .int (nI c0)), (0, .ref (base + 16)), (1, .int (nI P)), (2, .int (nI a))]) C dX5_giveObject_87 (by decide) rfl ?_
      refine z_iload C dX5_giveObject_89 0 rfl ?_
      refine z_if_le (tgt := 98) C dX5_giveObject_91 (by decide) (fun h91 => absurd h91 (nI_nle hp8 (by omega))) (fun h91 => ?_)
      refine z_iconst (v := 0) C dX5_giveObject_94 (by decide) ?_
      refine z_goto (tgt := 99) C dX5_giveObject_95 (by decide) ?_
      exact z_iret C hrt rfl dX5_giveObject_99 (by decide) (by decide) (⟨by rw [hl0]; rfl, by unfold r_goS; rw [if_pos hl0, if_neg (show ¬ r.2.2 3 c0 < 0 from Int32.not_lt.mpr h64)]⟩)
    · skip
      refine z_aload_n C dX5_giveObject_67 rfl 2 rfl ?_
      refine z_get C fl_X5_47 dX5_giveObject_68 rfl rfl ?_
      refine z_iload_n C dX5_giveObject_71 rfl 1 rfl ?_
      refine z_iload_n C dX5_giveObject_72 rfl 3 rfl ?_
      refine z_iastN C dX5_giveObject_73 rfl (by omega) (by decide) ?_
      refine z_goto (tgt := 100) C dX5_giveObject_74 (by decide) ?_
      refine z_iload C dX5_giveObject_100 0 rfl ?_
      exact z_iret C hrt rfl dX5_giveObject_102 (by decide) (by decide) (by first | exact ⟨rfl, by unfold r_goS; rw [if_neg hl1]⟩ | exact ⟨rfl, by unfold r_goS; rw [if_pos hl0, if_pos (show r.2.2 3 c0 < 0 from Int32.not_le.mp h64)]; rfl⟩)

set_option maxHeartbeats 4000000 in
set_option maxRecDepth 100000 in
theorem m_X5_shrink (l : Launch) (G : z_G) (base : Nat) (xs : Nat → va_E) (r : r_T) (tl : List va_E) (hfo : ∀ p, r.2.1 1 p < 256) (hoo : ∀ p, r.2.1 2 p ≤ 6) (x : Int32) (nc : Nat) (hnc : r.1 1 = nI nc) (hnc2 : nc ≤ 12) (hem : ∀ c, c < nc → 0 ≤ r.2.2 3 c → ∃ P, P < 256 ∧ r.2.2 3 c = nI P ∧ P % 2 ^ r.2.1 2 P = 0) : z_M l G base yX5_shrink cX5_shrink 3 (some .int) 4 0 0 [.ref (base + 16), .int (x)] (hpM G base xs r tl) (fun v hp' => v = some (.int (r_shA r (x))) ∧ hp' = hpM G base xs (r_shS r (x)) tl) := by
  refine z_M.of (lv0 := [(0, .ref (base + 16)), (1, .int (x))]) (by decide) (Nat.le_of_ble_eq_true rfl) rfl ?_
  intro p e s m below meth c hmn hrt C
  refine z_aload_n C dX5_shrink_0 rfl 0 rfl ?_
  refine z_iload_n C dX5_shrink_1 rfl 1 rfl ?_
  refine z_callV (rest := []) C (m_X5_isCache l G base xs r tl (x)) ml_X5_116 kw_X5_isCache rfl rfl rfl rfl (by simp [Value.category]) dX5_shrink_2 (by decide) (by decide) (by decide) (by decide) ?_
  rintro _ _ ⟨rfl, rfl⟩
  refine z_st (st' := [.int ((bI (r_isc r (x))))]) rfl ?_
  refine z_if_ne (tgt := 10) C dX5_shrink_5 (by decide) (fun h5 => ?_) (fun h5 => ?_)
  · skip
    have hic := bI_nt h5
    obtain ⟨c0, hc0, rfl⟩ := r_isc_true hnc hnc2 hic
    have hcc : (nI c0).toNatClampNeg = c0 := nI_clamp (by omega)
    refine z_aload_n C dX5_shrink_10 rfl 0 rfl ?_
    refine z_get C fl_X5_47 dX5_shrink_11 rfl rfl ?_
    refine z_iload_n C dX5_shrink_14 rfl 1 rfl ?_
    refine z_ialdN C dX5_shrink_15 rfl (by omega) (by decide) ?_
    refine z_topi (fun w3 ew3 => ?_)
    refine z_istore_n (lv' := [(2, .int (w3)), (0, .ref (base + 16)), (1, .int (nI c0))]) C dX5_shrink_16 rfl (by decide) rfl ?_
    refine z_aload_n C dX5_shrink_17 rfl 1 rfl ?_
    refine z_get C fl_X5_47 dX5_shrink_18 rfl rfl ?_
    refine z_iload_n C dX5_shrink_21 rfl 2 rfl ?_
    refine z_iconst (v := -1) C dX5_shrink_22 (by decide) ?_
    refine z_iastN C dX5_shrink_23 rfl (by omega) (by decide) ?_
    refine z_hp (hp' := hpM G base xs (r.1, r.2.1, va_up r.2.2 3 (upd (r.2.2 3) c0 (-1))) tl) (rfl) ?_
    by_cases hneg : 0 ≤ r.2.2 3 c0
    · skip
      obtain ⟨P, hP, heP, hPa⟩ := hem c0 hc0 hneg
      have ew3 : w3 = nI P := by rw [ew3]; exact heP
      subst ew3
      refine z_iload_n C dX5_shrink_24 rfl 0 rfl ?_
      refine z_if_ge (tgt := 32) C dX5_shrink_25 (by decide) (fun h25 => ?_) (fun h25 => absurd h25 (fun q => q (nI_pos' (by omega))))
      refine z_aload_n C dX5_shrink_32 rfl 1 rfl ?_
      refine z_iload_n C dX5_shrink_33 rfl 0 rfl ?_
      refine z_callV (rest := []) C (m_X5_giveBlock l G base xs (r.1, r.2.1, va_up r.2.2 3 (upd (r.2.2 3) c0 (-1))) tl hfo hoo P hP hPa) ml_X5_107 kw_X5_giveBlock rfl rfl rfl rfl (by simp [Value.category]) dX5_shrink_34 (by decide) (by decide) (by decide) (by decide) ?_
      rintro _ _ ⟨rfl, rfl⟩
      refine z_st (st' := [.int (nI (2 ^ r.2.1 2 P))]) rfl ?_
      exact z_iret C hrt rfl dX5_shrink_37 (by decide) (by decide) (by first | exact ⟨by unfold r_shA; rw [if_pos hic, hcc, if_pos hneg, heP, cl_nI hP], by unfold r_shS; rw [if_pos hic, hcc, if_pos hneg, heP, cl_nI hP]⟩ | exact ⟨by rw [ew3] at hneg; unfold r_shA; rw [if_pos hic, hcc, if_neg hneg], by rw [ew3] at hneg; unfold r_shS; rw [if_pos hic, hcc, if_neg hneg]⟩)
    · skip
      have hneg : ¬ 0 ≤ w3 := by rw [ew3]; exact hneg
      refine z_iload_n C dX5_shrink_24 rfl 0 rfl ?_
      refine z_if_ge (tgt := 32) C dX5_shrink_25 (by decide) (fun h25 => absurd h25 (hneg)) (fun h25 => ?_)
      refine z_iconst (v := 0) C dX5_shrink_28 (by decide) ?_
      refine z_goto (tgt := 37) C dX5_shrink_29 (by decide) ?_
      exact z_iret C hrt rfl dX5_shrink_37 (by decide) (by decide) (by first | exact ⟨by unfold r_shA; rw [if_pos hic, hcc, if_pos hneg, heP, cl_nI hP], by unfold r_shS; rw [if_pos hic, hcc, if_pos hneg, heP, cl_nI hP]⟩ | exact ⟨by rw [ew3] at hneg; unfold r_shA; rw [if_pos hic, hcc, if_neg hneg], by rw [ew3] at hneg; unfold r_shS; rw [if_pos hic, hcc, if_neg hneg]⟩)
  · skip
    refine z_iconst (v := -1) C dX5_shrink_8 (by decide) ?_
    exact z_iret C hrt rfl dX5_shrink_9 (by decide) (by decide) (⟨by unfold r_shA; rw [if_neg (by rw [bI_ff h5]; exact Bool.false_ne_true)], by unfold r_shS; rw [if_neg (by rw [bI_ff h5]; exact Bool.false_ne_true)]⟩)

set_option maxHeartbeats 4000000 in
set_option maxRecDepth 100000 in
theorem m_X5_classOf (l : Launch) (G : z_G) (base : Nat) (hp : List va_E) (b : Nat) (hb : 1 ≤ b) (hb2 : b ≤ 4096) : z_M l G base yX5_classOf cX5_classOf 3 (some .int) 0 0 0 [.int (nI b)] hp (fun v hp' => v = some (.int (nI (k_cls b))) ∧ hp' = hp) := by
  refine z_M.of (lv0 := [(0, .int (nI b))]) (by decide) (Nat.le_of_ble_eq_true rfl) rfl ?_
  intro p e s m below meth c hmn hrt C
  refine z_iconst (v := 0) C dX5_classOf_0 (by decide) ?_
  refine z_casti (y := nI 0) (rfl) ?_
  refine z_istore_n (lv' := [(1, .int (nI 0)), (0, .int (nI b))]) C dX5_classOf_1 rfl (by decide) rfl ?_
  refine z_lv (lv' := [(1, .int (nI 0)), (0, .int (nI b))]) [0, 1] rfl ?_
  have loop : ∀ (n : Nat) (j : Nat), (j ≤ 6) → (7 ≤ n + j) → (k_c1 b (6 - j) j = k_c1 b 6 0) → z_R p l e (z_rm 0 0 0) s m ([Value.int (nI b)] : List Value).toArray below meth c (MQ below (z_Qc G base (fun v hp' => v = some (.int (nI (k_cls b))) ∧ hp' = hp)) ([Value.int (nI b)] : List Value).toArray s 0 0 (fun z => base ≤ z)) G base 3 0 0 2 [(1, .int (nI j)), (0, .int (nI b))] [] hp := by
    intro n
    induction n with
    | zero => intro j hj hn0 hv; exact absurd hn0 (by omega)
    | succ n ih =>
      intro j hj hn0 hv
      refine z_iload_n C dX5_classOf_2 rfl 0 rfl ?_
      refine z_bipush (v := 6) C dX5_classOf_3 (by decide) ?_
      refine z_icmp_ge (tgt := 22) C dX5_classOf_5 (by decide) (fun h5 => ?_) (fun h5 => ?_)
      · skip
        have hend : ¬ (j < 6 ∧ 8 * 2 ^ j < b) := fun q => absurd h5 (nI_ge q.1 (by decide))
        have hje : k_c1 b 6 0 = j := by rw [← hv]; exact k_c1_end hend
        refine z_iload_n C dX5_classOf_22 rfl 0 rfl ?_
        refine z_bipush (v := 6) C dX5_classOf_23 (by decide) ?_
        refine z_icmp_ge (tgt := 37) C dX5_classOf_25 (by decide) (fun h25 => ?_) (fun h25 => ?_)
        · skip
          refine z_iconst (v := 0) C dX5_classOf_37 (by decide) ?_
          refine z_casti (y := nI 0) (rfl) ?_
          refine z_istore_n (lv' := [(2, .int (nI 0)), (1, .int (nI j)), (0, .int (nI b))]) C dX5_classOf_38 rfl (by decide) rfl ?_
          refine z_lv (lv' := [(2, .int (nI 0)), (0, .int (nI b))]) [0, 2] rfl ?_
          have loop2 : ∀ (n : Nat) (j2 : Nat), (j2 ≤ 6) → (7 ≤ n + j2) → (k_c2 b (6 - j2) j2 = k_c2 b 6 0) → z_R p l e (z_rm 0 0 0) s m ([Value.int (nI b)] : List Value).toArray below meth c (MQ below (z_Qc G base (fun v hp' => v = some (.int (nI (k_cls b))) ∧ hp' = hp)) ([Value.int (nI b)] : List Value).toArray s 0 0 (fun z => base ≤ z)) G base 3 0 0 39 [(2, .int (nI j2)), (0, .int (nI b))] [] hp := by
            intro n
            induction n with
            | zero => intro j2 hj2 hn0 hv2; exact absurd hn0 (by omega)
            | succ n ih =>
              intro j2 hj2 hn0 hv2
              have ih2 := ih
              have hj26 : 64 * 2 ^ j2 < b → j2 < 6 := fun q => by
                rcases Nat.lt_or_ge j2 6 with q9 | q9
                · exact q9
                · rw [show j2 = 6 by omega] at q; omega
              refine z_bipush (v := 64) C dX5_classOf_39 (by decide) ?_
              refine z_iload_n C dX5_classOf_41 rfl 0 rfl ?_
              refine z_ishl C dX5_classOf_42 ?_
              refine z_casti (y := nI (64 * 2 ^ j2)) (nI_64 _ (by omega)) ?_
              refine z_iload_n C dX5_classOf_43 rfl 1 rfl ?_
              refine z_icmp_ge (tgt := 53) C dX5_classOf_44 (by decide) (fun h44 => ?_) (fun h44 => ?_)
              · skip
                have hend2 : ¬ 64 * 2 ^ j2 < b := fun q => absurd h44 (nI_ge q (by omega))
                refine z_bipush (v := 6) C dX5_classOf_53 (by decide) ?_
                refine z_iload_n C dX5_classOf_55 rfl 0 rfl ?_
                refine z_iadd C dX5_classOf_56 ?_
                refine z_casti (y := nI (6 + j2)) (nI_add 6 _) ?_
                exact z_iret C hrt rfl dX5_classOf_57 (by decide) (by decide) (⟨by unfold k_cls; rw [hje, if_neg (by first | exact fun q => absurd h25 (nI_ge q.1 (by decide)) | exact fun q => absurd h32 (nI_nlt q.2 (by decide))), ← hv2, k_c2_end hend2], rfl⟩)
              · skip
                have hlt2 : 64 * 2 ^ j2 < b := (nI_ltI (by have := k_64 j2 (by omega); omega) (by omega)).mp (Int32.not_le.mp h44)
                have hj6b := hj26 hlt2
                refine z_iinc (k := 0) (v := nI (j2 + 1)) (lv' := [(2, .int (nI (j2 + 1))), (0, .int (nI b))]) C dX5_classOf_47 rfl (nI_1 j2) (by decide) rfl ?_
                refine z_goto (tgt := 39) C dX5_classOf_50 (by decide) ?_
                refine z_lv (lv' := [(2, .int (nI (j2 + 1))), (0, .int (nI b))]) [0, 1] rfl ?_
                exact ih2 (j2 + 1) (by omega) (by omega) (by rw [← hv2]; exact (k_c2_go hj26 hlt2).symm)
          exact loop2 7 0 (by omega) (by omega) rfl
        · skip
          refine z_iload_n C dX5_classOf_28 rfl 1 rfl ?_
          refine z_sipush (v := 256) C dX5_classOf_29 (by decide) ?_
          refine z_icmp_gt (tgt := 37) C dX5_classOf_32 (by decide) (fun h32 => ?_) (fun h32 => ?_)
          · skip
            refine z_iconst (v := 0) C dX5_classOf_37 (by decide) ?_
            refine z_casti (y := nI 0) (rfl) ?_
            refine z_istore_n (lv' := [(2, .int (nI 0)), (1, .int (nI j)), (0, .int (nI b))]) C dX5_classOf_38 rfl (by decide) rfl ?_
            refine z_lv (lv' := [(2, .int (nI 0)), (0, .int (nI b))]) [0, 2] rfl ?_
            have loop2 : ∀ (n : Nat) (j2 : Nat), (j2 ≤ 6) → (7 ≤ n + j2) → (k_c2 b (6 - j2) j2 = k_c2 b 6 0) → z_R p l e (z_rm 0 0 0) s m ([Value.int (nI b)] : List Value).toArray below meth c (MQ below (z_Qc G base (fun v hp' => v = some (.int (nI (k_cls b))) ∧ hp' = hp)) ([Value.int (nI b)] : List Value).toArray s 0 0 (fun z => base ≤ z)) G base 3 0 0 39 [(2, .int (nI j2)), (0, .int (nI b))] [] hp := by
              intro n
              induction n with
              | zero => intro j2 hj2 hn0 hv2; exact absurd hn0 (by omega)
              | succ n ih =>
                intro j2 hj2 hn0 hv2
                have ih2 := ih
                have hj26 : 64 * 2 ^ j2 < b → j2 < 6 := fun q => by
                  rcases Nat.lt_or_ge j2 6 with q9 | q9
                  · exact q9
                  · rw [show j2 = 6 by omega] at q; omega
                refine z_bipush (v := 64) C dX5_classOf_39 (by decide) ?_
                refine z_iload_n C dX5_classOf_41 rfl 0 rfl ?_
                refine z_ishl C dX5_classOf_42 ?_
                refine z_casti (y := nI (64 * 2 ^ j2)) (nI_64 _ (by omega)) ?_
                refine z_iload_n C dX5_classOf_43 rfl 1 rfl ?_
                refine z_icmp_ge (tgt := 53) C dX5_classOf_44 (by decide) (fun h44 => ?_) (fun h44 => ?_)
                · skip
                  have hend2 : ¬ 64 * 2 ^ j2 < b := fun q => absurd h44 (nI_ge q (by omega))
                  refine z_bipush (v := 6) C dX5_classOf_53 (by decide) ?_
                  refine z_iload_n C dX5_classOf_55 rfl 0 rfl ?_
                  refine z_iadd C dX5_classOf_56 ?_
                  refine z_casti (y := nI (6 + j2)) (nI_add 6 _) ?_
                  exact z_iret C hrt rfl dX5_classOf_57 (by decide) (by decide) (⟨by unfold k_cls; rw [hje, if_neg (by first | exact fun q => absurd h25 (nI_ge q.1 (by decide)) | exact fun q => absurd h32 (nI_nlt q.2 (by decide))), ← hv2, k_c2_end hend2], rfl⟩)
                · skip
                  have hlt2 : 64 * 2 ^ j2 < b := (nI_ltI (by have := k_64 j2 (by omega); omega) (by omega)).mp (Int32.not_le.mp h44)
                  have hj6b := hj26 hlt2
                  refine z_iinc (k := 0) (v := nI (j2 + 1)) (lv' := [(2, .int (nI (j2 + 1))), (0, .int (nI b))]) C dX5_classOf_47 rfl (nI_1 j2) (by decide) rfl ?_
                  refine z_goto (tgt := 39) C dX5_classOf_50 (by decide) ?_
                  refine z_lv (lv' := [(2, .int (nI (j2 + 1))), (0, .int (nI b))]) [0, 1] rfl ?_
                  exact ih2 (j2 + 1) (by omega) (by omega) (by rw [← hv2]; exact (k_c2_go hj26 hlt2).symm)
            exact loop2 7 0 (by omega) (by omega) rfl
          · skip
            refine z_iload_n C dX5_classOf_35 rfl 0 rfl ?_
            exact z_iret C hrt rfl dX5_classOf_36 (by decide) (by decide) (⟨by unfold k_cls; rw [hje, if_pos ⟨by rcases Nat.lt_or_ge j 6 with q9 | q9; exact q9; exact absurd (nI_le (a := 6) (b := j) q9 (by omega)) h25, by rcases Nat.lt_or_ge 256 b with q9 | q9; exact absurd (nI_lt (a := 256) q9 (by omega)) h32; exact q9⟩], rfl⟩)
      · skip
        have hj6 : j < 6 := by
          rcases Nat.lt_or_ge j 6 with q9 | q9
          · exact q9
          · exact absurd (nI_le (a := 6) (b := j) q9 (by omega)) h5
        refine z_bipush (v := 8) C dX5_classOf_8 (by decide) ?_
        refine z_iload_n C dX5_classOf_10 rfl 0 rfl ?_
        refine z_ishl C dX5_classOf_11 ?_
        refine z_casti (y := nI (8 * 2 ^ j)) (nI_8 _ (by omega)) ?_
        refine z_iload_n C dX5_classOf_12 rfl 1 rfl ?_
        refine z_icmp_ge (tgt := 22) C dX5_classOf_13 (by decide) (fun h13 => ?_) (fun h13 => ?_)
        · skip
          have hend : ¬ (j < 6 ∧ 8 * 2 ^ j < b) := fun q => absurd h13 (nI_ge q.2 (by omega))
          have hje : k_c1 b 6 0 = j := by rw [← hv]; exact k_c1_end hend
          refine z_iload_n C dX5_classOf_22 rfl 0 rfl ?_
          refine z_bipush (v := 6) C dX5_classOf_23 (by decide) ?_
          refine z_icmp_ge (tgt := 37) C dX5_classOf_25 (by decide) (fun h25 => ?_) (fun h25 => ?_)
          · skip
            refine z_iconst (v := 0) C dX5_classOf_37 (by decide) ?_
            refine z_casti (y := nI 0) (rfl) ?_
            refine z_istore_n (lv' := [(2, .int (nI 0)), (1, .int (nI j)), (0, .int (nI b))]) C dX5_classOf_38 rfl (by decide) rfl ?_
            refine z_lv (lv' := [(2, .int (nI 0)), (0, .int (nI b))]) [0, 2] rfl ?_
            have loop2 : ∀ (n : Nat) (j2 : Nat), (j2 ≤ 6) → (7 ≤ n + j2) → (k_c2 b (6 - j2) j2 = k_c2 b 6 0) → z_R p l e (z_rm 0 0 0) s m ([Value.int (nI b)] : List Value).toArray below meth c (MQ below (z_Qc G base (fun v hp' => v = some (.int (nI (k_cls b))) ∧ hp' = hp)) ([Value.int (nI b)] : List Value).toArray s 0 0 (fun z => base ≤ z)) G base 3 0 0 39 [(2, .int (nI j2)), (0, .int (nI b))] [] hp := by
              intro n
              induction n with
              | zero => intro j2 hj2 hn0 hv2; exact absurd hn0 (by omega)
              | succ n ih =>
                intro j2 hj2 hn0 hv2
                have ih2 := ih
                have hj26 : 64 * 2 ^ j2 < b → j2 < 6 := fun q => by
                  rcases Nat.lt_or_ge j2 6 with q9 | q9
                  · exact q9
                  · rw [show j2 = 6 by omega] at q; omega
                refine z_bipush (v := 64) C dX5_classOf_39 (by decide) ?_
                refine z_iload_n C dX5_classOf_41 rfl 0 rfl ?_
                refine z_ishl C dX5_classOf_42 ?_
                refine z_casti (y := nI (64 * 2 ^ j2)) (nI_64 _ (by omega)) ?_
                refine z_iload_n C dX5_classOf_43 rfl 1 rfl ?_
                refine z_icmp_ge (tgt := 53) C dX5_classOf_44 (by decide) (fun h44 => ?_) (fun h44 => ?_)
                · skip
                  have hend2 : ¬ 64 * 2 ^ j2 < b := fun q => absurd h44 (nI_ge q (by omega))
                  refine z_bipush (v := 6) C dX5_classOf_53 (by decide) ?_
                  refine z_iload_n C dX5_classOf_55 rfl 0 rfl ?_
                  refine z_iadd C dX5_classOf_56 ?_
                  refine z_casti (y := nI (6 + j2)) (nI_add 6 _) ?_
                  exact z_iret C hrt rfl dX5_classOf_57 (by decide) (by decide) (⟨by unfold k_cls; rw [hje, if_neg (by first | exact fun q => absurd h25 (nI_ge q.1 (by decide)) | exact fun q => absurd h32 (nI_nlt q.2 (by decide))), ← hv2, k_c2_end hend2], rfl⟩)
                · skip
                  have hlt2 : 64 * 2 ^ j2 < b := (nI_ltI (by have := k_64 j2 (by omega); omega) (by omega)).mp (Int32.not_le.mp h44)
                  have hj6b := hj26 hlt2
                  refine z_iinc (k := 0) (v := nI (j2 + 1)) (lv' := [(2, .int (nI (j2 + 1))), (0, .int (nI b))]) C dX5_classOf_47 rfl (nI_1 j2) (by decide) rfl ?_
                  refine z_goto (tgt := 39) C dX5_classOf_50 (by decide) ?_
                  refine z_lv (lv' := [(2, .int (nI (j2 + 1))), (0, .int (nI b))]) [0, 1] rfl ?_
                  exact ih2 (j2 + 1) (by omega) (by omega) (by rw [← hv2]; exact (k_c2_go hj26 hlt2).symm)
            exact loop2 7 0 (by omega) (by omega) rfl
          · skip
            refine z_iload_n C dX5_classOf_28 rfl 1 rfl ?_
            refine z_sipush (v := 256) C dX5_classOf_29 (by decide) ?_
            refine z_icmp_gt (tgt := 37) C dX5_classOf_32 (by decide) (fun h32 => ?_) (fun h32 => ?_)
            · skip
              refine z_iconst (v := 0) C dX5_classOf_37 (by decide) ?_
              refine z_casti (y := nI 0) (rfl) ?_
              refine z_istore_n (lv' := [(2, .int (nI 0)), (1, .int (nI j)), (0, .int (nI b))]) C dX5_classOf_38 rfl (by decide) rfl ?_
              refine z_lv (lv' := [(2, .int (nI 0)), (0, .int (nI b))]) [0, 2] rfl ?_
              have loop2 : ∀ (n : Nat) (j2 : Nat), (j2 ≤ 6) → (7 ≤ n + j2) → (k_c2 b (6 - j2) j2 = k_c2 b 6 0) → z_R p l e (z_rm 0 0 0) s m ([Value.int (nI b)] : List Value).toArray below meth c (MQ below (z_Qc G base (fun v hp' => v = some (.int (nI (k_cls b))) ∧ hp' = hp)) ([Value.int (nI b)] : List Value).toArray s 0 0 (fun z => base ≤ z)) G base 3 0 0 39 [(2, .int (nI j2)), (0, .int (nI b))] [] hp := by
                intro n
                induction n with
                | zero => intro j2 hj2 hn0 hv2; exact absurd hn0 (by omega)
                | succ n ih =>
                  intro j2 hj2 hn0 hv2
                  have ih2 := ih
                  have hj26 : 64 * 2 ^ j2 < b → j2 < 6 := fun q => by
                    rcases Nat.lt_or_ge j2 6 with q9 | q9
                    · exact q9
                    · rw [show j2 = 6 by omega] at q; omega
                  refine z_bipush (v := 64) C dX5_classOf_39 (by decide) ?_
                  refine z_iload_n C dX5_classOf_41 rfl 0 rfl ?_
                  refine z_ishl C dX5_classOf_42 ?_
                  refine z_casti (y := nI (64 * 2 ^ j2)) (nI_64 _ (by omega)) ?_
                  refine z_iload_n C dX5_classOf_43 rfl 1 rfl ?_
                  refine z_icmp_ge (tgt := 53) C dX5_classOf_44 (by decide) (fun h44 => ?_) (fun h44 => ?_)
                  · skip
                    have hend2 : ¬ 64 * 2 ^ j2 < b := fun q => absurd h44 (nI_ge q (by omega))
                    refine z_bipush (v := 6) C dX5_classOf_53 (by decide) ?_
                    refine z_iload_n C dX5_classOf_55 rfl 0 rfl ?_
                    refine z_iadd C dX5_classOf_56 ?_
                    refine z_casti (y := nI (6 + j2)) (nI_add 6 _) ?_
                    exact z_iret C hrt rfl dX5_classOf_57 (by decide) (by decide) (⟨by unfold k_cls; rw [hje, if_neg (by first | exact fun q => absurd h25 (nI_ge q.1 (by decide)) | exact fun q => absurd h32 (nI_nlt q.2 (by decide))), ← hv2, k_c2_end hend2], rfl⟩)
                  · skip
                    have hlt2 : 64 * 2 ^ j2 < b := (nI_ltI (by have := k_64 j2 (by omega); omega) (by omega)).mp (Int32.not_le.mp h44)
                    have hj6b := hj26 hlt2
                    refine z_iinc (k := 0) (v := nI (j2 + 1)) (lv' := [(2, .int (nI (j2 + 1))), (0, .int (nI b))]) C dX5_classOf_47 rfl (nI_1 j2) (by decide) rfl ?_
                    refine z_goto (tgt := 39) C dX5_classOf_50 (by decide) ?_
                    refine z_lv (lv' := [(2, .int (nI (j2 + 1))), (0, .int (nI b))]) [0, 1] rfl ?_
                    exact ih2 (j2 + 1) (by omega) (by omega) (by rw [← hv2]; exact (k_c2_go hj26 hlt2).symm)
              exact loop2 7 0 (by omega) (by omega) rfl
            · skip
              refine z_iload_n C dX5_classOf_35 rfl 0 rfl ?_
              exact z_iret C hrt rfl dX5_classOf_36 (by decide) (by decide) (⟨by unfold k_cls; rw [hje, if_pos ⟨by rcases Nat.lt_or_ge j 6 with q9 | q9; exact q9; exact absurd (nI_le (a := 6) (b := j) q9 (by omega)) h25, by rcases Nat.lt_or_ge 256 b with q9 | q9; exact absurd (nI_lt (a := 256) q9 (by omega)) h32; exact q9⟩], rfl⟩)
        · skip
          refine z_iinc (k := 0) (v := nI (j + 1)) (lv' := [(1, .int (nI (j + 1))), (0, .int (nI b))]) C dX5_classOf_16 rfl (nI_1 j) (by decide) rfl ?_
          refine z_goto (tgt := 2) C dX5_classOf_19 (by decide) ?_
          refine z_lv (lv' := [(1, .int (nI (j + 1))), (0, .int (nI b))]) [0, 1] rfl ?_
          exact ih (j + 1) (by omega) (by omega) (by rw [← hv]; exact (k_c1_go hj6 ((nI_ltI (by have := k_8 j (by omega); omega) (by omega)).mp (Int32.not_le.mp h13))).symm)
  exact loop 7 0 (by omega) (by omega) rfl

set_option maxHeartbeats 4000000 in
set_option maxRecDepth 100000 in
theorem m_X5_bytesOf (l : Launch) (G : z_G) (base : Nat) (hp : List va_E) (k : Nat) (hk : k ≤ 12) : z_M l G base yX5_bytesOf cX5_bytesOf 1 (some .int) 0 0 0 [.int (nI k)] hp (fun v hp' => v = some (.int (nI (k_bytes k))) ∧ hp' = hp) := by
  refine z_M.of (lv0 := [(0, .int (nI k))]) (by decide) (Nat.le_of_ble_eq_true rfl) rfl ?_
  intro p e s m below meth c hmn hrt C
  refine z_iload_n C dX5_bytesOf_0 rfl 0 rfl ?_
  refine z_bipush (v := 6) C dX5_bytesOf_1 (by decide) ?_
  refine z_icmp_ge (tgt := 13) C dX5_bytesOf_3 (by decide) (fun h3 => ?_) (fun h3 => ?_)
  · skip
    have hk6 : 6 ≤ k := (nI_leI (a := 6) (by decide) (by omega)).mp h3
    refine z_bipush (v := 64) C dX5_bytesOf_13 (by decide) ?_
    refine z_iload_n C dX5_bytesOf_15 rfl 0 rfl ?_
    refine z_bipush (v := 6) C dX5_bytesOf_16 (by decide) ?_
    refine z_isub C dX5_bytesOf_18 ?_
    refine z_casti (y := nI (k - 6)) (pk_sub (b := 6) hk6) ?_
    refine z_ishl C dX5_bytesOf_19 ?_
    refine z_casti (y := nI (k_bytes k)) (by unfold k_bytes; first | rw [if_pos hk6] | (rw [if_neg (by omega)]; exact nI_64 _ (by omega))) ?_
    exact z_iret C hrt rfl dX5_bytesOf_20 (by decide) (by decide) (⟨rfl, rfl⟩)
  · skip
    have hk6 : k < 6 := by
      rcases Nat.lt_or_ge k 6 with q9 | q9
      · exact q9
      · exact absurd (nI_le (a := 6) (b := k) q9 (by omega)) h3
    refine z_bipush (v := 8) C dX5_bytesOf_6 (by decide) ?_
    refine z_iload_n C dX5_bytesOf_8 rfl 0 rfl ?_
    refine z_ishl C dX5_bytesOf_9 ?_
    refine z_casti (y := nI (8 * 2 ^ k)) (nI_8 k (by omega)) ?_
    refine z_goto (tgt := 20) C dX5_bytesOf_10 (by decide) ?_
    refine z_casti (y := nI (k_bytes k)) (by unfold k_bytes; first | rw [if_pos hk6] | (rw [if_neg (by omega)]; exact nI_64 _ (by omega))) ?_
    exact z_iret C hrt rfl dX5_bytesOf_20 (by decide) (by decide) (⟨rfl, rfl⟩)
