set_option maxHeartbeats 4000000 in
set_option maxRecDepth 100000 in
theorem m_X5_take_out (l : Launch) (G : z_G) (base : Nat) (xs : Nat → va_E) (r : r_T) (tl : List va_E) (x : Int32) (hx : ¬ (¬ r.1 0 = 0 ∧ r_isc r x = true)) : z_M l G base yX5_take cX5_take 4 (some .int) 6 0 0 [.ref (base + 16), .int (x)] (hpM G base xs r tl) (fun v hp' => v = some (.int (-1)) ∧ hp' = hpM G base xs r tl) := by
  refine z_M.of (lv0 := [(0, .ref (base + 16)), (1, .int (x))]) (by decide) (Nat.le_of_ble_eq_true rfl) rfl ?_
  intro p e s m below meth c hmn hrt C
  refine z_aload_n C dX5_take_0 rfl 0 rfl ?_
  refine z_get C fl_X5_58 dX5_take_1 rfl rfl ?_
  refine z_if_eq (tgt := 15) C dX5_take_4 (by decide) (fun h4 => ?_) (fun h4 => ?_)
  · skip
    refine z_iconst (v := -1) C dX5_take_15 (by decide) ?_
    exact z_iret C hrt rfl dX5_take_16 (by decide) (by decide) (⟨rfl, rfl⟩)
  · skip
    refine z_aload_n C dX5_take_7 rfl 0 rfl ?_
    refine z_iload_n C dX5_take_8 rfl 1 rfl ?_
    refine z_callV (rest := []) C (m_X5_isCache l G base xs r tl (x)) ml_X5_116 kw_X5_isCache rfl rfl rfl rfl (by simp [Value.category]) dX5_take_9 (by decide) (by decide) (by decide) (by decide) ?_
    rintro _ _ ⟨rfl, rfl⟩
    refine z_st (st' := [.int ((bI (r_isc r x)))]) rfl ?_
    refine z_if_ne (tgt := 17) C dX5_take_12 (by decide) (fun h12 => absurd h12 (fun q => hx ⟨h4, bI_nt q⟩)) (fun h12 => ?_)
    refine z_iconst (v := -1) C dX5_take_15 (by decide) ?_
    exact z_iret C hrt rfl dX5_take_16 (by decide) (by decide) (⟨rfl, rfl⟩)

set_option maxHeartbeats 4000000 in
set_option maxRecDepth 100000 in
theorem m_X5_give (l : Launch) (G : z_G) (base : Nat) (xs : Nat → va_E) (r : r_T) (tl : List va_E) (nc : Nat) (hw : r_wf r nc) (x y : Int32) : z_M l G base yX5_give cX5_give 5 (some .int) 5 0 0 [.ref (base + 16), .int (x), .int (y)] (hpM G base xs r tl) (fun v hp' => v = some (.int (r_gvA r (x) (y))) ∧ hp' = hpM G base xs (r_gvT r (x) (y)) tl) := by
  refine z_M.of (lv0 := [(0, .ref (base + 16)), (1, .int (x)), (2, .int (y))]) (by decide) (Nat.le_of_ble_eq_true rfl) rfl ?_
  intro p e s m below meth c hmn hrt C
  refine z_aload_n C dX5_give_0 rfl 0 rfl ?_
  refine z_iload_n C dX5_give_1 rfl 2 rfl ?_
  refine z_callV (rest := []) C (m_X5_slabAt l G base xs r tl hw.1.1 (y)) ml_X5_128 kw_X5_slabAt rfl rfl rfl rfl (by simp [Value.category]) dX5_give_2 (by decide) (by decide) (by decide) (by decide) ?_
  rintro _ _ ⟨rfl, rfl⟩
  refine z_st (st' := [.int (oI (r_sa r (y)))]) rfl ?_
  rcases opt_cases (r_sa r (y)) with hsa | ⟨P, hsa⟩
  · skip
    refine z_casti (y := -1) (by rw [hsa]; rfl) ?_
    refine z_istore_n (lv' := [(3, .int ((-1 : Int32))), (0, .ref (base + 16)), (1, .int (x)), (2, .int (y))]) C dX5_give_5 rfl (by decide) rfl ?_
    refine z_aload_n C dX5_give_6 rfl 1 rfl ?_
    refine z_iload_n C dX5_give_7 rfl 2 rfl ?_
    refine z_callV (rest := []) C (m_X5_isCache l G base xs r tl (x)) ml_X5_116 kw_X5_isCache rfl rfl rfl rfl (by simp [Value.category]) dX5_give_8 (by decide) (by decide) (by decide) (by decide) ?_
    rintro _ _ ⟨rfl, rfl⟩
    refine z_st (st' := [.int ((bI (r_isc r x)))]) rfl ?_
    refine z_if_eq (tgt := 28) C dX5_give_11 (by decide) (fun h11 => ?_) (fun h11 => ?_)
    · skip
      refine z_bipush (v := -2) C dX5_give_28 (by decide) ?_
      exact z_iret C hrt rfl dX5_give_30 (by decide) (by decide) (⟨by unfold r_gvA; rw [(show r_gvI r x y = none by unfold r_gvI; rw [hsa])], by unfold r_gvT; rw [(show r_gvI r x y = none by unfold r_gvI; rw [hsa])]⟩)
    · skip
      refine z_iload_n C dX5_give_14 rfl 0 rfl ?_
      refine z_if_lt (tgt := 28) C dX5_give_15 (by decide) (fun h15 => ?_) (fun h15 => absurd h15 (by decide))
      refine z_bipush (v := -2) C dX5_give_28 (by decide) ?_
      exact z_iret C hrt rfl dX5_give_30 (by decide) (by decide) (⟨by unfold r_gvA; rw [(show r_gvI r x y = none by unfold r_gvI; rw [hsa])], by unfold r_gvT; rw [(show r_gvI r x y = none by unfold r_gvI; rw [hsa])]⟩)
  · skip
    refine z_casti (y := nI P) (by rw [hsa]; rfl) ?_
    obtain ⟨a, ha, rfl, hst, hus, hPe, htk, hcc⟩ := r_sa_some hsa
    obtain ⟨hP, hPf, hPa, c0, hc0, hcP, hfull⟩ := hw.2.2.2.2.1 a P ha hsa
    have hc12 := hw.2.2.1.2.2
    obtain ⟨hs1, hs2, hs3, hs4, hs5⟩ := hw.2.1 c0 hc0
    refine z_istore_n (lv' := [(3, .int (nI P)), (0, .ref (base + 16)), (1, .int (x)), (2, .int (nI a))]) C dX5_give_5 rfl (by decide) rfl ?_
    refine z_aload_n C dX5_give_6 rfl 1 rfl ?_
    refine z_iload_n C dX5_give_7 rfl 2 rfl ?_
    refine z_callV (rest := []) C (m_X5_isCache l G base xs r tl (x)) ml_X5_116 kw_X5_isCache rfl rfl rfl rfl (by simp [Value.category]) dX5_give_8 (by decide) (by decide) (by decide) (by decide) ?_
    rintro _ _ ⟨rfl, rfl⟩
    refine z_st (st' := [.int ((bI (r_isc r x)))]) rfl ?_
    refine z_if_eq (tgt := 28) C dX5_give_11 (by decide) (fun h11 => ?_) (fun h11 => ?_)
    · skip
      refine z_bipush (v := -2) C dX5_give_28 (by decide) ?_
      exact z_iret C hrt rfl dX5_give_30 (by decide) (by decide) (⟨by unfold r_gvA; rw [(show r_gvI r x (nI a) = none by unfold r_gvI; rw [hsa]; show (if _ then _ else _) = _; rw [if_neg (by first | (rw [bI_ff h11]; exact fun q => Bool.noConfusion q.1) | exact fun q => h25 q.2)])], by unfold r_gvT; rw [(show r_gvI r x (nI a) = none by unfold r_gvI; rw [hsa]; show (if _ then _ else _) = _; rw [if_neg (by first | (rw [bI_ff h11]; exact fun q => Bool.noConfusion q.1) | exact fun q => h25 q.2)])]⟩)
    · skip
      refine z_iload_n C dX5_give_14 rfl 0 rfl ?_
      refine z_if_lt (tgt := 28) C dX5_give_15 (by decide) (fun h15 => absurd h15 (nI_pos (by omega))) (fun h15 => ?_)
      refine z_aload_n C dX5_give_18 rfl 1 rfl ?_
      refine z_get C fl_X5_26 dX5_give_19 rfl rfl ?_
      refine z_iload_n C dX5_give_22 rfl 0 rfl ?_
      refine z_ialdN C dX5_give_23 rfl (by omega) (by decide) ?_
      refine z_iload_n C dX5_give_24 rfl 2 rfl ?_
      refine z_icmp_eq (tgt := 31) C dX5_give_25 (by decide) (fun h25 => ?_) (fun h25 => ?_)
      · skip
        have hxc : nI c0 = x := by rw [← hcP]; exact h25
        subst hxc
        have hgI : r_gvI r (nI c0) (nI a) = some (P, a, c0) := by unfold r_gvI; rw [hsa]; show (if _ then _ else _) = _; rw [if_pos ⟨bI_nt h11, hcP⟩, nI_clamp (by omega), nI_clamp (by omega)]
        refine z_aload_n C dX5_give_31 rfl 1 rfl ?_
        refine z_iload_n C dX5_give_32 rfl 0 rfl ?_
        refine z_iload_n C dX5_give_33 rfl 3 rfl ?_
        refine z_callV (rest := []) C (m_X5_faultOfObject l G base xs r tl P a c0 hP hPa ha hcP (by omega) hs1 hs2 hs3 (hw.1.2.2.2 P) hw.1.2.2.1) ml_X5_131 kw_X5_faultOfObject rfl rfl rfl rfl (by simp [Value.category]) dX5_give_34 (by decide) (by decide) (by decide) (by decide) ?_
        rintro _ _ ⟨rfl, rfl⟩
        refine z_st (st' := [.int (r_fob r P a c0)]) rfl ?_
        rcases r_fob_cases r P a c0 with h9 | h9 | h9
        · skip
          refine z_casti h9 ?_
          refine z_istore (lv' := [(4, .int ((-2 : Int32))), (3, .int (nI P)), (0, .ref (base + 16)), (1, .int (nI c0)), (2, .int (nI a))]) C dX5_give_37 (by decide) rfl ?_
          refine z_iload C dX5_give_39 0 rfl ?_
          refine z_if_ge (tgt := 49) C dX5_give_41 (by decide) (fun h41 => absurd h41 (by decide)) (fun h41 => ?_)
          refine z_iload C dX5_give_44 0 rfl ?_
          refine z_goto (tgt := 55) C dX5_give_46 (by decide) ?_
          exact z_iret C hrt rfl dX5_give_55 (by decide) (by decide) (⟨by unfold r_gvA; rw [hgI]; show _ = some (Value.int (if _ then _ else _)); first | rw [if_neg (by rw [h9]; decide), h9] | rw [if_pos h9], by unfold r_gvT; rw [hgI]; show _ = hpM G base xs (if _ then _ else _) tl; first | rw [if_neg (by rw [h9]; decide)] | rw [if_pos h9]⟩)
        · skip
          refine z_casti h9 ?_
          refine z_istore (lv' := [(4, .int ((-3 : Int32))), (3, .int (nI P)), (0, .ref (base + 16)), (1, .int (nI c0)), (2, .int (nI a))]) C dX5_give_37 (by decide) rfl ?_
          refine z_iload C dX5_give_39 0 rfl ?_
          refine z_if_ge (tgt := 49) C dX5_give_41 (by decide) (fun h41 => absurd h41 (by decide)) (fun h41 => ?_)
          refine z_iload C dX5_give_44 0 rfl ?_
          refine z_goto (tgt := 55) C dX5_give_46 (by decide) ?_
          exact z_iret C hrt rfl dX5_give_55 (by decide) (by decide) (⟨by unfold r_gvA; rw [hgI]; show _ = some (Value.int (if _ then _ else _)); first | rw [if_neg (by rw [h9]; decide), h9] | rw [if_pos h9], by unfold r_gvT; rw [hgI]; show _ = hpM G base xs (if _ then _ else _) tl; first | rw [if_neg (by rw [h9]; decide)] | rw [if_pos h9]⟩)
        · skip
          refine z_casti h9 ?_
          refine z_istore (lv' := [(4, .int ((0 : Int32))), (3, .int (nI P)), (0, .ref (base + 16)), (1, .int (nI c0)), (2, .int (nI a))]) C dX5_give_37 (by decide) rfl ?_
          refine z_iload C dX5_give_39 0 rfl ?_
          refine z_if_ge (tgt := 49) C dX5_give_41 (by decide) (fun h41 => ?_) (fun h41 => absurd h41 (by decide))
          refine z_aload_n C dX5_give_49 rfl 2 rfl ?_
          refine z_iload_n C dX5_give_50 rfl 1 rfl ?_
          refine z_iload_n C dX5_give_51 rfl 4 rfl ?_
          refine z_callV (rest := []) C (m_X5_giveObject l G base xs r tl hw.1.1 hw.1.2.1 P a c0 hP hPa ha hcP (by omega) hs1 hs2 hs3 (hfull h9) hs5 (hw.2.2.2.1 P hP hPf)) ml_X5_134 kw_X5_giveObject rfl rfl rfl rfl (by simp [Value.category]) dX5_give_52 (by decide) (by decide) (by decide) (by decide) ?_
          rintro _ _ ⟨rfl, rfl⟩
          refine z_st (st' := [.int (nI (r_ob r c0 - (r.2.1 4 P + 1)))]) rfl ?_
          exact z_iret C hrt rfl dX5_give_55 (by decide) (by decide) (⟨by unfold r_gvA; rw [hgI]; show _ = some (Value.int (if _ then _ else _)); first | rw [if_neg (by rw [h9]; decide), h9] | rw [if_pos h9], by unfold r_gvT; rw [hgI]; show _ = hpM G base xs (if _ then _ else _) tl; first | rw [if_neg (by rw [h9]; decide)] | rw [if_pos h9]⟩)
      · skip
        refine z_bipush (v := -2) C dX5_give_28 (by decide) ?_
        exact z_iret C hrt rfl dX5_give_30 (by decide) (by decide) (⟨by unfold r_gvA; rw [(show r_gvI r x (nI a) = none by unfold r_gvI; rw [hsa]; show (if _ then _ else _) = _; rw [if_neg (by first | (rw [bI_ff h11]; exact fun q => Bool.noConfusion q.1) | exact fun q => h25 q.2)])], by unfold r_gvT; rw [(show r_gvI r x (nI a) = none by unfold r_gvI; rw [hsa]; show (if _ then _ else _) = _; rw [if_neg (by first | (rw [bI_ff h11]; exact fun q => Bool.noConfusion q.1) | exact fun q => h25 q.2)])]⟩)
