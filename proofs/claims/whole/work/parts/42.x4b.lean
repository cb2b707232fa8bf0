theorem z_appl {hp t : List va_E} {i : Nat} {e : va_E} (h : hp[i]? = some e) : (hp ++ t)[i]? = some e := by
  rw [List.getElem?_append_left (List.getElem?_eq_some_iff.mp h).1]; exact h
theorem z_appn {hp t : List va_E} {e : va_E} : (hp ++ e :: t)[hp.length]? = some e := by
  rw [List.getElem?_append_right (Nat.le_refl _), Nat.sub_self]; rfl
theorem l_new {hp : List va_E} {a b c : va_E} : ((hp ++ [a]) ++ [b]).set hp.length c = hp ++ [c, b] := by
  rw [List.append_assoc, List.set_append_right _ _ (Nat.le_refl _), Nat.sub_self]; rfl
theorem l_len1 {hp : List va_E} {a : va_E} : (hp ++ [a]).length = hp.length + 1 := by rw [List.length_append]; rfl
theorem va_up_up {α : Type} (f : Nat → α) (k : Nat) (a b : α) : va_up (va_up f k a) k b = va_up f k b := by
  funext j
  unfold va_up
  split <;> rfl
theorem va_up_id {α : Type} (f : Nat → α) (k : Nat) (a : α) (h : f k = a) : va_up f k a = f := by
  funext j
  unfold va_up
  split
  · rename_i hj; rw [hj, h]
  · rfl

set_option maxHeartbeats 4000000 in
set_option maxRecDepth 100000 in
theorem m_X4_partlyLiveSlab (l : Launch) (G : z_G) (base : Nat) (sc td : Nat → Int32) (q : q_T) (nc : Nat) (cf : Nat → Nat → Int32) (pl : Nat → Nat) (S : Nat → Option s_T) (mem : Nat → Nat) (hp : List va_E) (hC : C_ok G base sc td q nc cf pl S mem hp) (kt ko kb : Nat → Nat) (hX : X_ok nc q cf S kt ko kb) (c0 : Nat) (hc0 : c0 < nc) : z_M l G base yX4_partlyLiveSlab cX4_partlyLiveSlab 4 (some .int) 2 0 0 [.ref (base + 0), .ref (base + (pl c0))] hp (fun v hp' => v = some (.int (oI (c_part q S c0))) ∧ hp' = hp) := by
  refine z_M.of (lv0 := [(0, .ref (base + 0)), (1, .ref (base + (pl c0)))]) (by decide) (Nat.le_of_ble_eq_true rfl) rfl ?_
  intro p e s m below meth c hmn hrt C
  obtain ⟨hk0, hk3, hk4, hk5, hkt, hkt2, hko, hkb, hkb2⟩ := hX.kf c0 hc0
  refine z_iconst (v := 0) C dX4_partlyLiveSlab_0 (by decide) ?_
  refine z_casti (y := nI 0) (rfl) ?_
  refine z_istore_n (lv' := [(2, .int (nI 0)), (0, .ref (base + 0)), (1, .ref (base + (pl c0)))]) C dX4_partlyLiveSlab_1 rfl (by decide) rfl ?_
  refine z_lv (lv' := [(2, .int (nI 0)), (0, .ref (base + 0)), (1, .ref (base + (pl c0)))]) [0, 1, 2] rfl ?_
  have loop : ∀ (n : Nat) (z : Nat), (z ≤ 256) → (257 ≤ n + z) → (q_find (c_pg q S c0) (256 - z) z = c_part q S c0) → z_R p l e (z_rm 2 0 0) s m ([Value.ref (base + 0), .ref (base + (pl c0))] : List Value).toArray below meth c (MQ below (z_Qc G base (fun v hp' => v = some (.int (oI (c_part q S c0))) ∧ hp' = hp)) ([Value.ref (base + 0), .ref (base + (pl c0))] : List Value).toArray s 0 0 (fun z => base ≤ z)) G base 4 0 0 2 [(2, .int (nI z)), (0, .ref (base + 0)), (1, .ref (base + (pl c0)))] [] hp := by
    intro n
    induction n with
    | zero => intro z hz hn0 hv; exact absurd hn0 (by omega)
    | succ n ih =>
      intro z hz hn0 hv
      refine z_iload_n C dX4_partlyLiveSlab_2 rfl 0 rfl ?_
      refine z_sipush (v := 256) C dX4_partlyLiveSlab_3 (by decide) ?_
      refine z_icmp_ge (tgt := 50) C dX4_partlyLiveSlab_6 (by decide) (fun h6 => ?_) (fun h6 => ?_)
      · skip
        have ze : z = 256 := by
          rcases Nat.lt_or_ge z 256 with q9 | q9
          · exact absurd h6 (nI_ge q9 (by decide))
          · omega
        refine z_iconst (v := -1) C dX4_partlyLiveSlab_50 (by decide) ?_
        exact z_iret C hrt rfl dX4_partlyLiveSlab_51 (by decide) (by decide) (⟨by rw [← hv, ze]; rfl, rfl⟩)
      · skip
        have zl : z < 256 := by
          rcases Nat.lt_or_ge z 256 with q9 | q9
          · exact q9
          · exact absurd (nI_le (a := 256) (b := z) q9 (by omega)) h6
        refine z_aload_n C dX4_partlyLiveSlab_9 rfl 1 rfl ?_
        refine z_get C fl_X4_25 dX4_partlyLiveSlab_10 hC.1 rfl ?_
        refine z_iload_n C dX4_partlyLiveSlab_13 rfl 0 rfl ?_
        refine z_aaldN (t := 3) C rfl dX4_partlyLiveSlab_14 hC.2.2.2.2.1 (by omega) (by decide) ?_
        rcases opts_cases (S z) with hS | ⟨j1, r1, n1, ob1, f1, w1, hS⟩
        · skip
          refine z_st (st' := [.null]) (by show [va_rf (c_sl base S z)] = _; rw [show c_sl base S z = none by unfold c_sl; rw [hS]; rfl]; rfl) ?_
          have hmiss : c_pg q S c0 z = false := c_pg_n hS
          refine z_astore_nq (x := none) (lv' := [(3, .null), (2, .int (nI z)), (0, .ref (base + 0)), (1, .ref (base + (pl c0)))]) C dX4_partlyLiveSlab_15 rfl (by decide) rfl ?_
          refine z_aload_nq (x := none) C dX4_partlyLiveSlab_16 rfl 0 rfl ?_
          refine z_ifnull_n (tgt := 44) C dX4_partlyLiveSlab_17 (by decide) ?_
          refine z_lv (lv' := [(2, .int (nI z)), (0, .ref (base + 0)), (1, .ref (base + (pl c0)))]) [1, 2, 3] rfl ?_
          refine z_iinc (k := 0) (v := nI (z + 1)) (lv' := [(2, .int (nI (z + 1))), (0, .ref (base + 0)), (1, .ref (base + (pl c0)))]) C dX4_partlyLiveSlab_44 rfl (nI_1 z) (by decide) rfl ?_
          refine z_goto (tgt := 2) C dX4_partlyLiveSlab_47 (by decide) ?_
          refine z_lv (lv' := [(2, .int (nI (z + 1))), (0, .ref (base + 0)), (1, .ref (base + (pl c0)))]) [0, 1, 2] rfl ?_
          exact ih (z + 1) (by omega) (by omega) (by rw [← hv]; exact (q_find_miss (by omega) hmiss).symm)
        · skip
          refine z_st (st' := [.ref (base + j1)]) (by show [va_rf (c_sl base S z)] = _; rw [show c_sl base S z = some (base + j1) by unfold c_sl; rw [hS]; rfl]; rfl) ?_
          obtain ⟨hno, hob, hfl⟩ := hX.sf _ _ _ _ _ _ _ hS
          refine z_astore_n (lv' := [(3, .ref (base + j1)), (2, .int (nI z)), (0, .ref (base + 0)), (1, .ref (base + (pl c0)))]) C dX4_partlyLiveSlab_15 rfl (by decide) rfl ?_
          refine z_aload_n C dX4_partlyLiveSlab_16 rfl 0 rfl ?_
          refine z_ifnull_s C dX4_partlyLiveSlab_17 ?_
          refine z_aload_n C dX4_partlyLiveSlab_20 rfl 2 rfl ?_
          refine z_get C fl_X4_19 dX4_partlyLiveSlab_21 hC.1 rfl ?_
          refine z_iload_n C dX4_partlyLiveSlab_24 rfl 1 rfl ?_
          refine z_callV (rest := []) C (C_same hC (fun xs tl => m_X0_useFrom l G base xs sc td q tl hX.q (nI z))) ml_X4_150 kw_X0_useFrom hC.2.2.2.1.1 rfl rfl rfl (by simp [Value.category]) dX4_partlyLiveSlab_25 (by decide) (by decide) (by decide) (by decide) ?_
          rintro _ _ ⟨rfl, rfl⟩
          refine z_st (st' := [.int (j_uf q.1 q.2.1 (nI z))]) rfl ?_
          refine z_aload_n C dX4_partlyLiveSlab_28 rfl 3 rfl ?_
          refine z_get C fl_X4_191 dX4_partlyLiveSlab_29 (hC.ca hc0) rfl ?_
          refine z_casti (y := nI (2 + c0)) (hk0) ?_
          refine z_icmp_ne (tgt := 44) C dX4_partlyLiveSlab_32 (by decide) (fun h32 => ?_) (fun h32 => ?_)
          · skip
            have hmiss : c_pg q S c0 z = false := by
              rw [c_pg_s hS]; exact decide_eq_false (fun q9 => h32 q9.1)
            refine z_lv (lv' := [(2, .int (nI z)), (0, .ref (base + 0)), (1, .ref (base + (pl c0)))]) [1, 2, 3] rfl ?_
            refine z_iinc (k := 0) (v := nI (z + 1)) (lv' := [(2, .int (nI (z + 1))), (0, .ref (base + 0)), (1, .ref (base + (pl c0)))]) C dX4_partlyLiveSlab_44 rfl (nI_1 z) (by decide) rfl ?_
            refine z_goto (tgt := 2) C dX4_partlyLiveSlab_47 (by decide) ?_
            refine z_lv (lv' := [(2, .int (nI (z + 1))), (0, .ref (base + 0)), (1, .ref (base + (pl c0)))]) [0, 1, 2] rfl ?_
            exact ih (z + 1) (by omega) (by omega) (by rw [← hv]; exact (q_find_miss (by omega) hmiss).symm)
          · skip
            refine z_aload_n C dX4_partlyLiveSlab_35 rfl 0 rfl ?_
            refine z_callV (rest := []) C (m_X3_isPartlyLive l G base _ j1 r1 n1 ob1 f1 w1 (hC.sj hS) (hC.sr hS) (hC.jr hS) hno hob) ml_X4_212 kw_X3_isPartlyLive (hC.sj hS) rfl rfl rfl (by simp [Value.category]) dX4_partlyLiveSlab_36 (by decide) (by decide) (by decide) (by decide) ?_
            rintro _ _ ⟨rfl, rfl⟩
            refine z_st (st' := [.int ((bI (decide (0 < n1 ∧ n1 < ob1))))]) rfl ?_
            refine z_if_eq (tgt := 44) C dX4_partlyLiveSlab_39 (by decide) (fun h39 => ?_) (fun h39 => ?_)
            · skip
              have hmiss : c_pg q S c0 z = false := by
                rw [c_pg_s hS]; exact decide_eq_false (fun q9 => bI_eq h39 q9.2)
              refine z_lv (lv' := [(2, .int (nI z)), (0, .ref (base + 0)), (1, .ref (base + (pl c0)))]) [1, 2, 3] rfl ?_
              refine z_iinc (k := 0) (v := nI (z + 1)) (lv' := [(2, .int (nI (z + 1))), (0, .ref (base + 0)), (1, .ref (base + (pl c0)))]) C dX4_partlyLiveSlab_44 rfl (nI_1 z) (by decide) rfl ?_
              refine z_goto (tgt := 2) C dX4_partlyLiveSlab_47 (by decide) ?_
              refine z_lv (lv' := [(2, .int (nI (z + 1))), (0, .ref (base + 0)), (1, .ref (base + (pl c0)))]) [0, 1, 2] rfl ?_
              exact ih (z + 1) (by omega) (by omega) (by rw [← hv]; exact (q_find_miss (by omega) hmiss).symm)
            · skip
              have hhit : c_pg q S c0 z = true := by
                rw [c_pg_s hS]; exact decide_eq_true ⟨h32, bI_ne h39⟩
              refine z_iload_n C dX4_partlyLiveSlab_42 rfl 1 rfl ?_
              exact z_iret C hrt rfl dX4_partlyLiveSlab_43 (by decide) (by decide) (⟨by rw [← hv, q_find_hit zl hhit]; rfl, rfl⟩)
  exact loop 257 0 (by omega) (by omega) rfl

set_option maxHeartbeats 4000000 in
set_option maxRecDepth 100000 in
theorem m_X4_wrongWithObject (l : Launch) (G : z_G) (base : Nat) (sc td : Nat → Int32) (q : q_T) (nc : Nat) (cf : Nat → Nat → Int32) (pl : Nat → Nat) (S : Nat → Option s_T) (mem : Nat → Nat) (hp : List va_E) (hC : C_ok G base sc td q nc cf pl S mem hp) (kt ko kb : Nat → Nat) (hX : X_ok nc q cf S kt ko kb) (c0 : Nat) (hc0 : c0 < nc) (x : Int32) : z_M l G base yX4_wrongWithObject cX4_wrongWithObject 6 (some .int) 2 0 0 [.ref (base + 0), .ref (base + (pl c0)), .int (x)] hp (fun v hp' => v = some (.int (c_wo q S kt kb c0 (x))) ∧ hp' = hp) := by
  refine z_M.of (lv0 := [(0, .ref (base + 0)), (1, .ref (base + (pl c0))), (2, .int (x))]) (by decide) (Nat.le_of_ble_eq_true rfl) rfl ?_
  intro p e s m below meth c hmn hrt C
  obtain ⟨hk0, hk3, hk4, hk5, hkt, hkt2, hko, hkb, hkb2⟩ := hX.kf c0 hc0
  refine z_iload_n C dX4_wrongWithObject_0 rfl 2 rfl ?_
  refine z_callS (rest := []) C (m_X4_isAddress l G base _ (x)) ml_X4_132 kw_X4_isAddress rfl rfl (by simp [Value.category]) dX4_wrongWithObject_1 (by decide) (by decide) (by decide) (by decide) ?_
  rintro _ _ ⟨rfl, rfl⟩
  refine z_st (st' := [.int ((bI (decide (0 ≤ x ∧ x < 16384))))]) rfl ?_
  refine z_if_ne (tgt := 10) C dX4_wrongWithObject_4 (by decide) (fun h4 => ?_) (fun h4 => ?_)
  · skip
    have hxx := bI_ne h4
    obtain ⟨a, ha, rfl⟩ := ad_of hxx
    refine z_aload_n C dX4_wrongWithObject_10 rfl 0 rfl ?_
    refine z_get C fl_X4_19 dX4_wrongWithObject_11 hC.1 rfl ?_
    refine z_iload_n C dX4_wrongWithObject_14 rfl 2 rfl ?_
    refine z_bipush (v := 64) C dX4_wrongWithObject_15 (by decide) ?_
    refine z_idiv C dX4_wrongWithObject_17 (by decide) ?_
    refine z_casti (y := nI (a / 64)) (pk_div (d := 64) (by omega) (by omega) (by decide)) ?_
    refine z_callV (rest := []) C (C_same hC (fun xs tl => m_X0_firstOf l G base xs sc td q tl hX.q (nI (a / 64)))) ml_X4_147 kw_X0_firstOf hC.2.2.2.1.1 rfl rfl rfl (by simp [Value.category]) dX4_wrongWithObject_18 (by decide) (by decide) (by decide) (by decide) ?_
    rintro _ _ ⟨rfl, rfl⟩
    refine z_st (st' := [.int (oI (j_fo q.1 (nI (a / 64))))]) rfl ?_
    rcases opt_cases (j_fo q.1 (nI (a / 64))) with hfo | ⟨P, hfo⟩
    · skip
      refine z_casti (y := -1) (by rw [hfo]; rfl) ?_
      refine z_istore_n (lv' := [(3, .int ((-1 : Int32))), (0, .ref (base + 0)), (1, .ref (base + (pl c0))), (2, .int (nI a))]) C dX4_wrongWithObject_21 rfl (by decide) rfl ?_
      refine z_aload_n C dX4_wrongWithObject_22 rfl 1 rfl ?_
      refine z_iload_n C dX4_wrongWithObject_23 rfl 0 rfl ?_
      refine z_callV (rest := []) C (m_X4_slabAt l G base sc td q nc cf pl S mem _ hC ((-1 : Int32))) ml_X4_187 kw_X4_slabAt hC.1 rfl rfl rfl (by simp [Value.category]) dX4_wrongWithObject_24 (by decide) (by decide) (by decide) (by decide) ?_
      rintro _ _ ⟨rfl, rfl⟩
      refine z_st (st' := [va_rf (c_sa base S ((-1 : Int32)))]) rfl ?_
      skip
      · skip
        refine z_st (st' := [.null]) (by show [va_rf (c_sa base S (-1))] = _; rw [show c_sa base S (-1) = none from if_neg (by decide)]; rfl) ?_
        refine z_astoreq (x := none) (lv' := [(4, .null), (3, .int ((-1 : Int32))), (0, .ref (base + 0)), (1, .ref (base + (pl c0))), (2, .int (nI a))]) C dX4_wrongWithObject_27 (by decide) rfl ?_
        refine z_aloadq (x := none) C dX4_wrongWithObject_29 0 rfl ?_
        refine z_ifnull_n (tgt := 49) C dX4_wrongWithObject_31 (by decide) ?_
        refine z_bipush (v := -2) C dX4_wrongWithObject_49 (by decide) ?_
        exact z_iret C hrt rfl dX4_wrongWithObject_51 (by decide) (by decide) (⟨by rw [c_wo_at ha]; unfold c_wo2; rw [hfo], rfl⟩)
    · skip
      refine z_casti (y := nI P) (by rw [hfo]; rfl) ?_
      have hP := j_fo_lt hfo
      have hPa := j_fo_le (by omega) hfo
      refine z_istore_n (lv' := [(3, .int (nI P)), (0, .ref (base + 0)), (1, .ref (base + (pl c0))), (2, .int (nI a))]) C dX4_wrongWithObject_21 rfl (by decide) rfl ?_
      refine z_aload_n C dX4_wrongWithObject_22 rfl 1 rfl ?_
      refine z_iload_n C dX4_wrongWithObject_23 rfl 0 rfl ?_
      refine z_callV (rest := []) C (m_X4_slabAt l G base sc td q nc cf pl S mem _ hC (nI P)) ml_X4_187 kw_X4_slabAt hC.1 rfl rfl rfl (by simp [Value.category]) dX4_wrongWithObject_24 (by decide) (by decide) (by decide) (by decide) ?_
      rintro _ _ ⟨rfl, rfl⟩
      refine z_st (st' := [va_rf (c_sa base S (nI P))]) rfl ?_
      rcases opts_cases (S P) with hS | ⟨j1, r1, n1, ob1, f1, w1, hS⟩
      · skip
        refine z_st (st' := [.null]) (by show [va_rf (c_sa base S (nI P))] = _; rw [show c_sa base S (nI P) = none by rw [c_sa_at (by omega)]; unfold c_sl; rw [hS]; rfl]; rfl) ?_
        refine z_astoreq (x := none) (lv' := [(4, .null), (3, .int (nI P)), (0, .ref (base + 0)), (1, .ref (base + (pl c0))), (2, .int (nI a))]) C dX4_wrongWithObject_27 (by decide) rfl ?_
        refine z_aloadq (x := none) C dX4_wrongWithObject_29 0 rfl ?_
        refine z_ifnull_n (tgt := 49) C dX4_wrongWithObject_31 (by decide) ?_
        refine z_bipush (v := -2) C dX4_wrongWithObject_49 (by decide) ?_
        exact z_iret C hrt rfl dX4_wrongWithObject_51 (by decide) (by decide) (⟨by rw [c_wo_at ha]; unfold c_wo2; rw [hfo]; dsimp only; rw [hS], rfl⟩)
      · skip
        refine z_st (st' := [.ref (base + j1)]) (by show [va_rf (c_sa base S (nI P))] = _; rw [show c_sa base S (nI P) = some (base + j1) by rw [c_sa_at (by omega)]; unfold c_sl; rw [hS]; rfl]; rfl) ?_
        obtain ⟨hno, hob, hfl⟩ := hX.sf _ _ _ _ _ _ _ hS
        refine z_astore (lv' := [(4, .ref (base + j1)), (3, .int (nI P)), (0, .ref (base + 0)), (1, .ref (base + (pl c0))), (2, .int (nI a))]) C dX4_wrongWithObject_27 (by decide) rfl ?_
        refine z_aload C dX4_wrongWithObject_29 0 rfl ?_
        refine z_ifnull_s C dX4_wrongWithObject_31 ?_
        refine z_aload_n C dX4_wrongWithObject_34 rfl 2 rfl ?_
        refine z_get C fl_X4_19 dX4_wrongWithObject_35 hC.1 rfl ?_
        refine z_iload_n C dX4_wrongWithObject_38 rfl 1 rfl ?_
        refine z_callV (rest := []) C (C_same hC (fun xs tl => m_X0_useFrom l G base xs sc td q tl hX.q (nI P))) ml_X4_150 kw_X0_useFrom hC.2.2.2.1.1 rfl rfl rfl (by simp [Value.category]) dX4_wrongWithObject_39 (by decide) (by decide) (by decide) (by decide) ?_
        rintro _ _ ⟨rfl, rfl⟩
        refine z_st (st' := [.int (j_uf q.1 q.2.1 (nI P))]) rfl ?_
        refine z_aload_n C dX4_wrongWithObject_42 rfl 3 rfl ?_
        refine z_get C fl_X4_191 dX4_wrongWithObject_43 (hC.ca hc0) rfl ?_
        refine z_casti (y := nI (2 + c0)) (hk0) ?_
        refine z_icmp_eq (tgt := 52) C dX4_wrongWithObject_46 (by decide) (fun h46 => ?_) (fun h46 => ?_)
        · skip
          refine z_aload_n C dX4_wrongWithObject_52 rfl 3 rfl ?_
          refine z_iload_n C dX4_wrongWithObject_53 rfl 4 rfl ?_
          refine z_iload_n C dX4_wrongWithObject_54 rfl 1 rfl ?_
          refine z_bipush (v := 64) C dX4_wrongWithObject_55 (by decide) ?_
          refine z_imul C dX4_wrongWithObject_57 ?_
          refine z_casti (y := nI (P * 64)) (pk_mul _ 64) ?_
          refine z_isub C dX4_wrongWithObject_58 ?_
          refine z_casti (y := nI (a - P * 64)) (pk_sub (by omega)) ?_
          refine z_callV (rest := []) C (m_X1_indexAt l G base _ (pl c0) (cf c0) (hC.ca hc0) (a - P * 64) (kt c0) (kb c0) hk3 hk5 hkt hkt2 (by omega) (by omega)) ml_X4_194 kw_X1_indexAt (hC.ca hc0) rfl rfl rfl (by simp [Value.category]) dX4_wrongWithObject_59 (by decide) (by decide) (by decide) (by decide) ?_
          rintro _ _ ⟨rfl, rfl⟩
          refine z_st (st' := [.int (oI (j_ix (a - P * 64) (kt c0) (kb c0)))]) rfl ?_
          rcases opt_cases (j_ix (a - P * 64) (kt c0) (kb c0)) with hix | ⟨i, hix⟩
          · skip
            refine z_casti (y := -1) (by rw [hix]; rfl) ?_
            refine z_istore (lv' := [(5, .int ((-1 : Int32))), (4, .ref (base + j1)), (3, .int (nI P)), (0, .ref (base + 0)), (1, .ref (base + (pl c0))), (2, .int (nI a))]) C dX4_wrongWithObject_62 (by decide) rfl ?_
            refine z_iload C dX4_wrongWithObject_64 0 rfl ?_
            refine z_iconst (v := -1) C dX4_wrongWithObject_66 (by decide) ?_
            refine z_icmp_ne (tgt := 73) C dX4_wrongWithObject_67 (by decide) (fun h67 => absurd h67 (by decide)) (fun h67 => ?_)
            refine z_bipush (v := -2) C dX4_wrongWithObject_70 (by decide) ?_
            exact z_iret C hrt rfl dX4_wrongWithObject_72 (by decide) (by decide) (⟨by rw [c_wo_at ha]; unfold c_wo2; rw [hfo]; dsimp only; rw [hS]; dsimp only; rw [if_pos h46, hix], rfl⟩)
          · skip
            refine z_casti (y := nI i) (by rw [hix]; rfl) ?_
            have hi64 : i < 64 := by have := (j_ix_some hix).2.1; omega
            refine z_istore (lv' := [(5, .int (nI i)), (4, .ref (base + j1)), (3, .int (nI P)), (0, .ref (base + 0)), (1, .ref (base + (pl c0))), (2, .int (nI a))]) C dX4_wrongWithObject_62 (by decide) rfl ?_
            refine z_iload C dX4_wrongWithObject_64 0 rfl ?_
            refine z_iconst (v := -1) C dX4_wrongWithObject_66 (by decide) ?_
            refine z_icmp_ne (tgt := 73) C dX4_wrongWithObject_67 (by decide) (fun h67 => ?_) (fun h67 => absurd h67 (nI_m1 (by omega)))
            refine z_aload C dX4_wrongWithObject_73 1 rfl ?_
            refine z_iload C dX4_wrongWithObject_75 0 rfl ?_
            refine z_callV (rest := []) C (m_X3_isLive l G base _ j1 r1 n1 ob1 f1 w1 (hC.sj hS) (hC.sr hS) (hC.jr hS) i hi64) ml_X4_197 kw_X3_isLive (hC.sj hS) rfl rfl rfl (by simp [Value.category]) dX4_wrongWithObject_77 (by decide) (by decide) (by decide) (by decide) ?_
            rintro _ _ ⟨rfl, rfl⟩
            refine z_st (st' := [.int ((bI (lb w1 i)))]) rfl ?_
            refine z_if_eq (tgt := 87) C dX4_wrongWithObject_80 (by decide) (fun h80 => ?_) (fun h80 => ?_)
            · skip
              refine z_bipush (v := -3) C dX4_wrongWithObject_87 (by decide) ?_
              exact z_iret C hrt rfl dX4_wrongWithObject_89 (by decide) (by decide) (⟨by rw [c_wo_at ha]; unfold c_wo2; rw [hfo]; dsimp only; rw [hS]; dsimp only; rw [if_pos h46, hix]; dsimp only; rw [if_neg (by rw [bI_ff h80]; decide)], rfl⟩)
            · skip
              refine z_iconst (v := 0) C dX4_wrongWithObject_83 (by decide) ?_
              refine z_goto (tgt := 89) C dX4_wrongWithObject_84 (by decide) ?_
              exact z_iret C hrt rfl dX4_wrongWithObject_89 (by decide) (by decide) (⟨by rw [c_wo_at ha]; unfold c_wo2; rw [hfo]; dsimp only; rw [hS]; dsimp only; rw [if_pos h46, hix]; dsimp only; rw [if_pos (bI_nt h80)], rfl⟩)
        · skip
          refine z_bipush (v := -2) C dX4_wrongWithObject_49 (by decide) ?_
          exact z_iret C hrt rfl dX4_wrongWithObject_51 (by decide) (by decide) (⟨by rw [c_wo_at ha]; unfold c_wo2; rw [hfo]; dsimp only; rw [hS]; dsimp only; rw [if_neg h46], rfl⟩)
  · skip
    refine z_bipush (v := -2) C dX4_wrongWithObject_7 (by decide) ?_
    exact z_iret C hrt rfl dX4_wrongWithObject_9 (by decide) (by decide) (⟨by unfold c_wo; rw [if_neg (bI_eq h4)], rfl⟩)

set_option maxHeartbeats 4000000 in
set_option maxRecDepth 100000 in
theorem m_X4_wrongBySize (l : Launch) (G : z_G) (base : Nat) (sc td : Nat → Int32) (q : q_T) (nc : Nat) (cf : Nat → Nat → Int32) (pl : Nat → Nat) (S : Nat → Option s_T) (mem : Nat → Nat) (hp : List va_E) (hC : C_ok G base sc td q nc cf pl S mem hp) (kt ko kb : Nat → Nat) (hX : X_ok nc q cf S kt ko kb) (x : Int32) : z_M l G base yX4_wrongBySize cX4_wrongBySize 5 (some .int) 3 0 0 [.ref (base + 0), .int (x)] hp (fun v hp' => v = some (.int (c_ws q S kt kb (x))) ∧ hp' = hp) := by
  refine z_M.of (lv0 := [(0, .ref (base + 0)), (1, .int (x))]) (by decide) (Nat.le_of_ble_eq_true rfl) rfl ?_
  intro p e s m below meth c hmn hrt C
  refine z_iload_n C dX4_wrongBySize_0 rfl 1 rfl ?_
  refine z_callS (rest := []) C (m_X4_isAddress l G base _ (x)) ml_X4_132 kw_X4_isAddress rfl rfl (by simp [Value.category]) dX4_wrongBySize_1 (by decide) (by decide) (by decide) (by decide) ?_
  rintro _ _ ⟨rfl, rfl⟩
  refine z_st (st' := [.int ((bI (decide (0 ≤ x ∧ x < 16384))))]) rfl ?_
  refine z_if_ne (tgt := 10) C dX4_wrongBySize_4 (by decide) (fun h4 => ?_) (fun h4 => ?_)
  · skip
    have hxx := bI_ne h4
    obtain ⟨a, ha, rfl⟩ := ad_of hxx
    refine z_iload_n C dX4_wrongBySize_10 rfl 1 rfl ?_
    refine z_bipush (v := 64) C dX4_wrongBySize_11 (by decide) ?_
    refine z_idiv C dX4_wrongBySize_13 (by decide) ?_
    refine z_casti (y := nI (a / 64)) (pk_div (d := 64) (by omega) (by omega) (by decide)) ?_
    refine z_istore_n (lv' := [(2, .int (nI (a / 64))), (0, .ref (base + 0)), (1, .int (nI a))]) C dX4_wrongBySize_14 rfl (by decide) rfl ?_
    refine z_aload_n C dX4_wrongBySize_15 rfl 1 rfl ?_
    refine z_get C fl_X4_19 dX4_wrongBySize_16 hC.1 rfl ?_
    refine z_aload_n C dX4_wrongBySize_19 rfl 1 rfl ?_
    refine z_get C fl_X4_19 dX4_wrongBySize_20 hC.1 rfl ?_
    refine z_iload_n C dX4_wrongBySize_23 rfl 0 rfl ?_
    refine z_callV (rest := [.ref (base + 3)]) C (C_same hC (fun xs tl => m_X0_firstOf l G base xs sc td q tl hX.q (nI (a / 64)))) ml_X4_147 kw_X0_firstOf hC.2.2.2.1.1 rfl rfl rfl (by simp [Value.category]) dX4_wrongBySize_24 (by decide) (by decide) (by decide) (by decide) ?_
    rintro _ _ ⟨rfl, rfl⟩
    refine z_st (st' := [.int (oI (j_fo q.1 (nI (a / 64)))), .ref (base + 3)]) rfl ?_
    refine z_callV (rest := []) C (C_same hC (fun xs tl => m_X0_useFrom l G base xs sc td q tl hX.q (oI (j_fo q.1 (nI (a / 64)))))) ml_X4_150 kw_X0_useFrom hC.2.2.2.1.1 rfl rfl rfl (by simp [Value.category]) dX4_wrongBySize_27 (by decide) (by decide) (by decide) (by decide) ?_
    rintro _ _ ⟨rfl, rfl⟩
    refine z_st (st' := [.int (j_uf q.1 q.2.1 (oI (j_fo q.1 (nI (a / 64)))))]) rfl ?_
    refine z_topi (fun u eu => ?_)
    refine z_istore_n (lv' := [(3, .int (u)), (2, .int (nI (a / 64))), (0, .ref (base + 0)), (1, .int (nI a))]) C dX4_wrongBySize_30 rfl (by decide) rfl ?_
    refine z_iload_n C dX4_wrongBySize_31 rfl 0 rfl ?_
    refine z_iconst (v := 2) C dX4_wrongBySize_32 (by decide) ?_
    refine z_icmp_lt (tgt := 73) C dX4_wrongBySize_33 (by decide) (fun h33 => ?_) (fun h33 => ?_)
    · skip
      refine z_iload_n C dX4_wrongBySize_73 rfl 3 rfl ?_
      refine z_bipush (v := 64) C dX4_wrongBySize_74 (by decide) ?_
      refine z_irem C dX4_wrongBySize_76 (by decide) ?_
      refine z_casti (y := nI (a % 64)) (pk_rem (d := 64) (by omega) (by omega) (by decide)) ?_
      refine z_if_ne (tgt := 88) C dX4_wrongBySize_77 (by decide) (fun h77 => ?_) (fun h77 => ?_)
      · skip
        refine z_bipush (v := -2) C dX4_wrongBySize_88 (by decide) ?_
        exact z_iret C hrt rfl dX4_wrongBySize_90 (by decide) (by decide) (⟨by rw [c_ws_at ha]; unfold c_ws2; rw [← eu, if_neg (Int32.not_le.mpr h33), if_neg (fun z => h77 (by rw [z]; rfl))], rfl⟩)
      · skip
        refine z_aload_n C dX4_wrongBySize_80 rfl 2 rfl ?_
        refine z_iload_n C dX4_wrongBySize_81 rfl 1 rfl ?_
        refine z_callV (rest := []) C (m_X4_wrongWithPage l G base sc td q nc cf pl S mem _ hC hX.q (nI (a / 64))) ml_X4_69 kw_X4_wrongWithPage hC.1 rfl rfl rfl (by simp [Value.category]) dX4_wrongBySize_82 (by decide) (by decide) (by decide) (by decide) ?_
        rintro _ _ ⟨rfl, rfl⟩
        refine z_st (st' := [.int (j_wp q.1 q.2.1 (nI (a / 64)))]) rfl ?_
        refine z_goto (tgt := 90) C dX4_wrongBySize_85 (by decide) ?_
        exact z_iret C hrt rfl dX4_wrongBySize_90 (by decide) (by decide) (⟨by rw [c_ws_at ha]; unfold c_ws2; rw [← eu, if_neg (Int32.not_le.mpr h33), if_pos (show a % 64 = 0 from (nI_eq (b := 0) (by omega) (by decide)).mp h77)], rfl⟩)
    · skip
      have h2u : 2 ≤ u := Int32.not_lt.mp h33
      refine z_iload_n C dX4_wrongBySize_36 rfl 0 rfl ?_
      refine z_bipush (v := 8) C dX4_wrongBySize_37 (by decide) ?_
      refine z_icmp_ge (tgt := 52) C dX4_wrongBySize_39 (by decide) (fun h39 => ?_) (fun h39 => ?_)
      · skip
        refine z_null C dX4_wrongBySize_52 ?_
        refine z_astoreq (x := none) (lv' := [(4, .null), (3, .int (u)), (2, .int (nI (a / 64))), (0, .ref (base + 0)), (1, .int (nI a))]) C dX4_wrongBySize_53 (by decide) rfl ?_
        refine z_aloadq (x := none) C dX4_wrongBySize_55 0 rfl ?_
        refine z_ifnonnull_n C dX4_wrongBySize_57 ?_
        refine z_bipush (v := -2) C dX4_wrongBySize_60 (by decide) ?_
        refine z_goto (tgt := 72) C dX4_wrongBySize_62 (by decide) ?_
        exact z_iret C hrt rfl dX4_wrongBySize_72 (by decide) (by decide) (⟨by rw [c_ws_at ha]; unfold c_ws2; rw [← eu, if_pos h2u, if_neg (Int32.not_lt.mpr h39)], rfl⟩)
      · skip
        have h8u : u < 8 := Int32.not_le.mp h39
        obtain ⟨c1, hc1, rfl⟩ := u_28 h33 h39
        have hn6 := hX.n6
        refine z_aload_n C dX4_wrongBySize_42 rfl 2 rfl ?_
        refine z_iload_n C dX4_wrongBySize_43 rfl 0 rfl ?_
        refine z_iconst (v := 2) C dX4_wrongBySize_44 (by decide) ?_
        refine z_isub C dX4_wrongBySize_45 ?_
        refine z_casti (y := nI c1) (by rw [show (nI (2 + c1) - 2) = nI (2 + c1 - 2) from pk_sub (b := 2) (by omega), Nat.add_sub_cancel_left]) ?_
        refine z_callV (rest := []) C (m_X4_cacheOf l G base sc td q nc cf pl S mem _ hC hX.nc (nI c1)) ml_X4_83 kw_X4_cacheOf hC.1 rfl rfl rfl (by simp [Value.category]) dX4_wrongBySize_46 (by decide) (by decide) (by decide) (by decide) ?_
        rintro _ _ ⟨rfl, rfl⟩
        refine z_st (st' := [va_rf (c_co base nc pl (nI c1))]) rfl ?_
        skip
        · skip
          refine z_st (st' := [.ref (base + (pl c1))]) (by rw [c_co_at hX.nc (show c1 < nc by omega)]; rfl) ?_
          refine z_goto (tgt := 53) C dX4_wrongBySize_49 (by decide) ?_
          refine z_astore (lv' := [(4, .ref (base + (pl c1))), (3, .int (nI (2 + c1))), (2, .int (nI (a / 64))), (0, .ref (base + 0)), (1, .int (nI a))]) C dX4_wrongBySize_53 (by decide) rfl ?_
          refine z_aload C dX4_wrongBySize_55 0 rfl ?_
          refine z_ifnonnull_s (tgt := 65) C dX4_wrongBySize_57 (by decide) ?_
          refine z_aload_n C dX4_wrongBySize_65 rfl 3 rfl ?_
          refine z_aload C dX4_wrongBySize_66 0 rfl ?_
          refine z_iload_n C dX4_wrongBySize_68 rfl 4 rfl ?_
          refine z_callV (rest := []) C (m_X4_wrongWithObject l G base sc td q nc cf pl S mem _ hC kt ko kb hX c1 (by omega) (nI a)) ml_X4_91 kw_X4_wrongWithObject hC.1 rfl rfl rfl (by simp [Value.category]) dX4_wrongBySize_69 (by decide) (by decide) (by decide) (by decide) ?_
          rintro _ _ ⟨rfl, rfl⟩
          refine z_st (st' := [.int (c_wo q S kt kb c1 (nI a))]) rfl ?_
          exact z_iret C hrt rfl dX4_wrongBySize_72 (by decide) (by decide) (⟨by rw [c_ws_at ha]; unfold c_ws2; rw [← eu, if_pos h2u, if_pos h8u, nI_clamp (by omega), Nat.add_sub_cancel_left, ← c_wo_at ha], rfl⟩)
  · skip
    refine z_bipush (v := -2) C dX4_wrongBySize_7 (by decide) ?_
    exact z_iret C hrt rfl dX4_wrongBySize_9 (by decide) (by decide) (⟨by unfold c_ws; rw [if_neg (bI_eq h4)], rfl⟩)
