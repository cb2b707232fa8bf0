theorem z_set0 {hp : List va_E} {i : Nat} {e : va_E} (h : hp[i]? = some e) : hp.set i e = hp := by
  apply List.ext_getElem?
  intro k
  by_cases hk : i = k
  · subst hk
    rw [z_self h, h]
  · rw [List.getElem?_set_ne hk]
set_option maxHeartbeats 4000000 in
set_option maxRecDepth 100000 in
theorem m_X1_objectsIn (l : Launch) (G : z_G) (base : Nat) (hp : List va_E) (k t : Nat) (hk : k < 7) (ht : 1 ≤ t) (ht2 : t < 65536) : z_M l G base yX1_objectsIn cX1_objectsIn 2 (some .int) 0 0 0 [.int (nI k), .int (nI t)] hp (fun v hp' => v = some (.int (nI (64 * 2 ^ k / t))) ∧ hp' = hp) := by
  refine z_M.of (lv0 := [(0, .int (nI k)), (1, .int (nI t))]) (by decide) (Nat.le_of_ble_eq_true rfl) rfl ?_
  intro p e s m below meth c hmn hrt C
  have hp2 := two_le k hk
  refine z_iload_n C dX1_objectsIn_0 rfl 1 rfl ?_
  refine z_iconst (v := 1) C dX1_objectsIn_1 (by decide) ?_
  refine z_icmp_ge (tgt := 9) C dX1_objectsIn_2 (by decide) (fun h2 => ?_) (fun h2 => absurd h2 (fun z => z (nI_le (a := 1) ht (by omega))))
  refine z_bipush (v := 64) C dX1_objectsIn_9 (by decide) ?_
  refine z_iload_n C dX1_objectsIn_11 rfl 0 rfl ?_
  refine z_ishl C dX1_objectsIn_12 ?_
  refine z_casti (y := nI (64 * 2 ^ k)) (nI_64 k hk) ?_
  refine z_iload_n C dX1_objectsIn_13 rfl 1 rfl ?_
  refine z_idiv C dX1_objectsIn_14 (nI_ne0 (by omega) (by omega)) ?_
  refine z_casti (y := nI (64 * 2 ^ k / t)) (pk_div (by omega) (by omega) (by omega)) ?_
  exact z_iret C hrt rfl dX1_objectsIn_15 (by decide) (by decide) (⟨rfl, rfl⟩)

set_option maxHeartbeats 4000000 in
set_option maxRecDepth 100000 in
theorem m_X1_orderFor (l : Launch) (G : z_G) (base : Nat) (hp : List va_E) (t : Nat) (ht : 1 ≤ t) (ht2 : t < 65536) : z_M l G base yX1_orderFor cX1_orderFor 2 (some .int) 1 0 0 [.int (nI t)] hp (fun v hp' => v = some (.int (nI (q_so t 4 0))) ∧ hp' = hp) := by
  refine z_M.of (lv0 := [(0, .int (nI t))]) (by decide) (Nat.le_of_ble_eq_true rfl) rfl ?_
  intro p e s m below meth c hmn hrt C
  refine z_iconst (v := 0) C dX1_orderFor_0 (by decide) ?_
  refine z_casti (y := nI 0) (rfl) ?_
  refine z_istore_n (lv' := [(1, .int (nI 0)), (0, .int (nI t))]) C dX1_orderFor_1 rfl (by decide) rfl ?_
  refine z_lv (lv' := [(1, .int (nI 0)), (0, .int (nI t))]) [0, 1] rfl ?_
  have loop : ∀ (n : Nat) (k : Nat), (k ≤ 4) → (5 ≤ n + k) → (q_so t (4 - k) k = q_so t 4 0) → z_R p l e (z_rm 1 0 0) s m ([Value.int (nI t)] : List Value).toArray below meth c (MQ below (z_Qc G base (fun v hp' => v = some (.int (nI (q_so t 4 0))) ∧ hp' = hp)) ([Value.int (nI t)] : List Value).toArray s 0 0 (fun z => base ≤ z)) G base 2 0 0 2 [(1, .int (nI k)), (0, .int (nI t))] [] hp := by
    intro n
    induction n with
    | zero => intro k hk hn0 hv; exact absurd hn0 (by omega)
    | succ n ih =>
      intro k hk hn0 hv
      refine z_iload_n C dX1_orderFor_2 rfl 0 rfl ?_
      refine z_iconst (v := 4) C dX1_orderFor_3 (by decide) ?_
      refine z_icmp_ge (tgt := 22) C dX1_orderFor_4 (by decide) (fun h4 => ?_) (fun h4 => ?_)
      · skip
        have hlt : ¬ (k < 4 ∧ 64 * 2 ^ k / t < 4) := fun z => absurd h4 (nI_ge z.1 (by decide))
        refine z_iload_n C dX1_orderFor_22 rfl 0 rfl ?_
        exact z_iret C hrt rfl dX1_orderFor_23 (by decide) (by decide) (⟨by rw [← hv, q_so_end hlt], rfl⟩)
      · skip
        have hk4 : k < 4 := by
          rcases Nat.lt_or_ge k 4 with z | z
          · exact z
          · exact absurd (nI_le (a := 4) (b := k) z (by omega)) h4
        have hdv : 64 * 2 ^ k / t ≤ 64 * 2 ^ k := Nat.div_le_self _ _
        have hp2 := two_le k (by omega)
        refine z_iload_n C dX1_orderFor_7 rfl 0 rfl ?_
        refine z_iload_n C dX1_orderFor_8 rfl 1 rfl ?_
        refine z_callS (rest := []) C (m_X1_objectsIn l G base _ k t (by omega) ht ht2) ml_X1_34 kw_X1_objectsIn rfl rfl (by simp [Value.category]) dX1_orderFor_9 (by decide) (by decide) (by decide) (by decide) ?_
        rintro _ _ ⟨rfl, rfl⟩
        refine z_st (st' := [.int (nI (64 * 2 ^ k / t))]) rfl ?_
        refine z_iconst (v := 4) C dX1_orderFor_12 (by decide) ?_
        refine z_icmp_ge (tgt := 22) C dX1_orderFor_13 (by decide) (fun h13 => ?_) (fun h13 => ?_)
        · skip
          have hlt : ¬ (k < 4 ∧ 64 * 2 ^ k / t < 4) := fun z => absurd h13 (nI_ge z.2 (by decide))
          refine z_iload_n C dX1_orderFor_22 rfl 0 rfl ?_
          exact z_iret C hrt rfl dX1_orderFor_23 (by decide) (by decide) (⟨by rw [← hv, q_so_end hlt], rfl⟩)
        · skip
          have hlt : 64 * 2 ^ k / t < 4 := by
            rcases Nat.lt_or_ge (64 * 2 ^ k / t) 4 with z | z
            · exact z
            · exact absurd (nI_le (a := 4) z (by omega)) h13
          refine z_iinc (k := 0) (v := nI (k + 1)) (lv' := [(1, .int (nI (k + 1))), (0, .int (nI t))]) C dX1_orderFor_16 rfl (nI_1 k) (by decide) rfl ?_
          refine z_goto (tgt := 2) C dX1_orderFor_19 (by decide) ?_
          refine z_lv (lv' := [(1, .int (nI (k + 1))), (0, .int (nI t))]) [0, 1] rfl ?_
          exact ih (k + 1) (by omega) (by omega) (by rw [← hv]; exact (q_so_go hk4 hlt).symm)
  exact loop 5 0 (by omega) (by omega) rfl

set_option maxHeartbeats 4000000 in
set_option maxRecDepth 100000 in
theorem m_X1_indexAt (l : Launch) (G : z_G) (base : Nat) (hp : List va_E) (i : Nat) (cf : Nat → Int32) (he : hp[i]? = some (q_oC cf)) (off t ob : Nat) (hc3 : cf 3 = nI t) (hc5 : cf 5 = nI ob) (ht : 1 ≤ t) (ht2 : t < 65536) (hof : off < 65536) (hob : ob < 65536) : z_M l G base yX1_indexAt cX1_indexAt 3 (some .int) 0 0 0 [.ref (base + i), .int (nI off)] hp (fun v hp' => v = some (.int (oI (j_ix off t ob))) ∧ hp' = hp) := by
  refine z_M.of (lv0 := [(0, .ref (base + i)), (1, .int (nI off))]) (by decide) (Nat.le_of_ble_eq_true rfl) rfl ?_
  intro p e s m below meth c hmn hrt C
  refine z_aload_n C dX1_indexAt_0 rfl 0 rfl ?_
  refine z_get C fl_X1_24 dX1_indexAt_1 he rfl ?_
  refine z_casti (y := nI t) (hc3) ?_
  refine z_iconst (v := 1) C dX1_indexAt_4 (by decide) ?_
  refine z_icmp_lt (tgt := 21) C dX1_indexAt_5 (by decide) (fun h5 => absurd h5 (nI_nlt (b := 1) ht (by omega))) (fun h5 => ?_)
  refine z_iload_n C dX1_indexAt_8 rfl 1 rfl ?_
  refine z_if_lt (tgt := 21) C dX1_indexAt_9 (by decide) (fun h9 => absurd h9 (nI_pos (by omega))) (fun h9 => ?_)
  refine z_iload_n C dX1_indexAt_12 rfl 1 rfl ?_
  refine z_aload_n C dX1_indexAt_13 rfl 0 rfl ?_
  refine z_get C fl_X1_24 dX1_indexAt_14 he rfl ?_
  refine z_casti (y := nI t) (hc3) ?_
  refine z_irem C dX1_indexAt_17 (nI_ne0 (by omega) (by omega)) ?_
  refine z_casti (y := nI (off % t)) (pk_rem (by omega) (by omega) (by omega)) ?_
  refine z_if_eq (tgt := 23) C dX1_indexAt_18 (by decide) (fun h18 => ?_) (fun h18 => ?_)
  · skip
    have hm : off % t = 0 := (nI_eq (b := 0) (Nat.lt_of_lt_of_le (Nat.mod_lt _ ht) (by omega)) (by decide)).mp h18
    have hdv : off / t ≤ off := Nat.div_le_self _ _
    refine z_iload_n C dX1_indexAt_23 rfl 1 rfl ?_
    refine z_aload_n C dX1_indexAt_24 rfl 0 rfl ?_
    refine z_get C fl_X1_24 dX1_indexAt_25 he rfl ?_
    refine z_casti (y := nI t) (hc3) ?_
    refine z_idiv C dX1_indexAt_28 (nI_ne0 (by omega) (by omega)) ?_
    refine z_casti (y := nI (off / t)) (pk_div (by omega) (by omega) (by omega)) ?_
    refine z_istore_n (lv' := [(2, .int (nI (off / t))), (0, .ref (base + i)), (1, .int (nI off))]) C dX1_indexAt_29 rfl (by decide) rfl ?_
    refine z_iload_n C dX1_indexAt_30 rfl 0 rfl ?_
    refine z_aload_n C dX1_indexAt_31 rfl 1 rfl ?_
    refine z_get C fl_X1_38 dX1_indexAt_32 he rfl ?_
    refine z_casti (y := nI ob) (hc5) ?_
    refine z_icmp_ge (tgt := 42) C dX1_indexAt_35 (by decide) (fun h35 => ?_) (fun h35 => ?_)
    · skip
      refine z_iconst (v := -1) C dX1_indexAt_42 (by decide) ?_
      exact z_iret C hrt rfl dX1_indexAt_43 (by decide) (by decide) (⟨by unfold j_ix; rw [if_neg (fun z => absurd h35 (nI_ge z.2 (by omega)))]; rfl, rfl⟩)
    · skip
      refine z_iload_n C dX1_indexAt_38 rfl 0 rfl ?_
      refine z_goto (tgt := 43) C dX1_indexAt_39 (by decide) ?_
      exact z_iret C hrt rfl dX1_indexAt_43 (by decide) (by decide) (⟨by unfold j_ix; rw [if_pos ⟨hm, (nI_ltI (by omega) (by omega)).mp (Int32.not_le.mp h35)⟩]; rfl, rfl⟩)
  · skip
    have hm : ¬ off % t = 0 := fun z => h18 (by rw [z]; rfl)
    refine z_iconst (v := -1) C dX1_indexAt_21 (by decide) ?_
    exact z_iret C hrt rfl dX1_indexAt_22 (by decide) (by decide) (⟨by unfold j_ix; rw [if_neg (fun z => hm z.1)]; rfl, rfl⟩)

set_option maxHeartbeats 4000000 in
set_option maxRecDepth 100000 in
theorem m_X1_figure (l : Launch) (G : z_G) (base : Nat) (hp : List va_E) (i : Nat) (cf : Nat → Int32) (he : hp[i]? = some (q_oC cf)) (x : Int32) : z_M l G base yX1_figure cX1_figure 2 (some .int) 0 0 0 [.ref (base + i), .int (x)] hp (fun v hp' => v = some (.int (j_fig cf (x))) ∧ hp' = hp) := by
  refine z_M.of (lv0 := [(0, .ref (base + i)), (1, .int (x))]) (by decide) (Nat.le_of_ble_eq_true rfl) rfl ?_
  intro p e s m below meth c hmn hrt C
  refine z_iload_n C dX1_figure_0 rfl 1 rfl ?_
  rcases tab8 x with hto | ⟨j, hj, rfl⟩
  · skip
    refine z_tabOut (tgt := 88) C dX1_figure_1 hto (by decide) ?_
    refine z_iconst (v := -1) C dX1_figure_88 (by decide) ?_
    exact z_iret C hrt rfl dX1_figure_89 (by decide) (by decide) (⟨by unfold j_fig; first | rw [if_pos hto] | rfl, rfl⟩)
  · skip
    rcases (show j = 0 ∨ j = 1 ∨ j = 2 ∨ j = 3 ∨ j = 4 ∨ j = 5 ∨ j = 6 ∨ j = 7 by omega) with rfl | rfl | rfl | rfl | rfl | rfl | rfl | rfl
    · skip
      refine z_tabIn (off := 47) (tgt := 48) C dX1_figure_1 (by decide) (by decide) (by decide) (by decide) ?_
      refine z_aload_n C dX1_figure_48 rfl 0 rfl ?_
      refine z_get C fl_X1_18 dX1_figure_49 he rfl ?_
      exact z_iret C hrt rfl dX1_figure_52 (by decide) (by decide) (⟨by unfold j_fig; first | rw [if_pos hto] | rfl, rfl⟩)
    · skip
      refine z_tabIn (off := 52) (tgt := 53) C dX1_figure_1 (by decide) (by decide) (by decide) (by decide) ?_
      refine z_aload_n C dX1_figure_53 rfl 0 rfl ?_
      refine z_get C fl_X1_21 dX1_figure_54 he rfl ?_
      exact z_iret C hrt rfl dX1_figure_57 (by decide) (by decide) (⟨by unfold j_fig; first | rw [if_pos hto] | rfl, rfl⟩)
    · skip
      refine z_tabIn (off := 57) (tgt := 58) C dX1_figure_1 (by decide) (by decide) (by decide) (by decide) ?_
      refine z_aload_n C dX1_figure_58 rfl 0 rfl ?_
      refine z_get C fl_X1_24 dX1_figure_59 he rfl ?_
      exact z_iret C hrt rfl dX1_figure_62 (by decide) (by decide) (⟨by unfold j_fig; first | rw [if_pos hto] | rfl, rfl⟩)
    · skip
      refine z_tabIn (off := 62) (tgt := 63) C dX1_figure_1 (by decide) (by decide) (by decide) (by decide) ?_
      refine z_aload_n C dX1_figure_63 rfl 0 rfl ?_
      refine z_get C fl_X1_31 dX1_figure_64 he rfl ?_
      exact z_iret C hrt rfl dX1_figure_67 (by decide) (by decide) (⟨by unfold j_fig; first | rw [if_pos hto] | rfl, rfl⟩)
    · skip
      refine z_tabIn (off := 67) (tgt := 68) C dX1_figure_1 (by decide) (by decide) (by decide) (by decide) ?_
      refine z_aload_n C dX1_figure_68 rfl 0 rfl ?_
      refine z_get C fl_X1_38 dX1_figure_69 he rfl ?_
      exact z_iret C hrt rfl dX1_figure_72 (by decide) (by decide) (⟨by unfold j_fig; first | rw [if_pos hto] | rfl, rfl⟩)
    · skip
      refine z_tabIn (off := 72) (tgt := 73) C dX1_figure_1 (by decide) (by decide) (by decide) (by decide) ?_
      refine z_aload_n C dX1_figure_73 rfl 0 rfl ?_
      refine z_get C fl_X1_41 dX1_figure_74 he rfl ?_
      exact z_iret C hrt rfl dX1_figure_77 (by decide) (by decide) (⟨by unfold j_fig; first | rw [if_pos hto] | rfl, rfl⟩)
    · skip
      refine z_tabIn (off := 77) (tgt := 78) C dX1_figure_1 (by decide) (by decide) (by decide) (by decide) ?_
      refine z_aload_n C dX1_figure_78 rfl 0 rfl ?_
      refine z_get C fl_X1_44 dX1_figure_79 he rfl ?_
      exact z_iret C hrt rfl dX1_figure_82 (by decide) (by decide) (⟨by unfold j_fig; first | rw [if_pos hto] | rfl, rfl⟩)
    · skip
      refine z_tabIn (off := 82) (tgt := 83) C dX1_figure_1 (by decide) (by decide) (by decide) (by decide) ?_
      refine z_aload_n C dX1_figure_83 rfl 0 rfl ?_
      refine z_get C fl_X1_9 dX1_figure_84 he rfl ?_
      exact z_iret C hrt rfl dX1_figure_87 (by decide) (by decide) (⟨by unfold j_fig; first | rw [if_pos hto] | rfl, rfl⟩)

set_option maxHeartbeats 4000000 in
set_option maxRecDepth 100000 in
theorem m_X2_shiftOf (l : Launch) (G : z_G) (base : Nat) (hp : List va_E) (a : Nat) (ha : a < 65536) : z_M l G base yX2_shiftOf cX2_shiftOf 1 (some .int) 0 0 0 [.int (nI a)] hp (fun v hp' => v = some (.int (nI (a % 8 * 8))) ∧ hp' = hp) := by
  refine z_M.of (lv0 := [(0, .int (nI a))]) (by decide) (Nat.le_of_ble_eq_true rfl) rfl ?_
  intro p e s m below meth c hmn hrt C
  refine z_iload_n C dX2_shiftOf_0 rfl 0 rfl ?_
  refine z_bipush (v := 8) C dX2_shiftOf_1 (by decide) ?_
  refine z_irem C dX2_shiftOf_3 (by decide) ?_
  refine z_casti (y := nI (a % 8)) (pk_rem (d := 8) (by omega) (by omega) (by decide)) ?_
  refine z_bipush (v := 8) C dX2_shiftOf_4 (by decide) ?_
  refine z_imul C dX2_shiftOf_6 ?_
  refine z_casti (y := nI (a % 8 * 8)) (pk_mul _ 8) ?_
  exact z_iret C hrt rfl dX2_shiftOf_7 (by decide) (by decide) (⟨rfl, rfl⟩)

set_option maxHeartbeats 4000000 in
set_option maxRecDepth 100000 in
theorem m_X2_get (l : Launch) (G : z_G) (base : Nat) (hp : List va_E) (f : Nat → Int64) (mem : Nat → Nat) (h1 : hp[1]? = some (q_oM base)) (h2 : hp[2]? = some (q_aL G 2048 f)) (hm : q_Mb f mem) (a : Nat) (ha : a < 16384) : z_M l G base yX2_get cX2_get 2 (some .int) 1 0 0 [.ref (base + 1), .int (nI a)] hp (fun v hp' => v = some (.int (nI (mem a))) ∧ hp' = hp) := by
  refine z_M.of (lv0 := [(0, .ref (base + 1)), (1, .int (nI a))]) (by decide) (Nat.le_of_ble_eq_true rfl) rfl ?_
  intro p e s m below meth c hmn hrt C
  refine z_aload_n C dX2_get_0 rfl 0 rfl ?_
  refine z_get C fl_X2_11 dX2_get_1 h1 rfl ?_
  refine z_iload_n C dX2_get_4 rfl 1 rfl ?_
  refine z_bipush (v := 8) C dX2_get_5 (by decide) ?_
  refine z_idiv C dX2_get_7 (by decide) ?_
  refine z_casti (y := nI (a / 8)) (pk_div (d := 8) (by omega) (by omega) (by decide)) ?_
  refine z_laldN C dX2_get_8 h2 (by omega) (by decide) ?_
  refine z_iload_n C dX2_get_9 rfl 1 rfl ?_
  refine z_callS (rest := [.long (f (a / 8))]) C (m_X2_shiftOf l G base _ a (by omega)) ml_X2_15 kw_X2_shiftOf rfl rfl (by simp [Value.category]) dX2_get_10 (by decide) (by decide) (by decide) (by decide) ?_
  rintro _ _ ⟨rfl, rfl⟩
  refine z_st (st' := [.int (nI (a % 8 * 8)), .long (f (a / 8))]) rfl ?_
  refine z_lushr C dX2_get_13 rfl ?_
  refine z_l2i C dX2_get_14 rfl ?_
  refine z_sipush (v := 255) C dX2_get_15 (by decide) ?_
  refine z_iand C dX2_get_18 ?_
  exact z_iret C hrt rfl dX2_get_19 (by decide) (by decide) (⟨by rw [mb_get (by omega) (hm a ha).1 (hm a ha).2], rfl⟩)

set_option maxHeartbeats 4000000 in
set_option maxRecDepth 100000 in
theorem m_X2_put (l : Launch) (G : z_G) (base : Nat) (hp : List va_E) (f : Nat → Int64) (mem : Nat → Nat) (h1 : hp[1]? = some (q_oM base)) (h2 : hp[2]? = some (q_aL G 2048 f)) (hm : q_Mb f mem) (a : Nat) (ha : a < 16384) (x : Int32) : z_M l G base yX2_put cX2_put 6 none 1 0 0 [.ref (base + 1), .int (nI a), .int (x)] hp (fun v hp' => v = none ∧ ∃ f', q_Mb f' (va_up mem a (x.toBitVec.toNat % 256)) ∧ hp' = hp.set 2 (q_aL G 2048 f')) := by
  refine z_M.of (lv0 := [(0, .ref (base + 1)), (1, .int (nI a)), (2, .int (x))]) (by decide) (Nat.le_of_ble_eq_true rfl) rfl ?_
  intro p e s m below meth c hmn hrt C
  refine z_iload_n C dX2_put_0 rfl 1 rfl ?_
  refine z_callS (rest := []) C (m_X2_shiftOf l G base _ a (by omega)) ml_X2_15 kw_X2_shiftOf rfl rfl (by simp [Value.category]) dX2_put_1 (by decide) (by decide) (by decide) (by decide) ?_
  rintro _ _ ⟨rfl, rfl⟩
  refine z_st (st' := [.int (nI (a % 8 * 8))]) rfl ?_
  refine z_istore_n (lv' := [(3, .int (nI (a % 8 * 8))), (0, .ref (base + 1)), (1, .int (nI a)), (2, .int (x))]) C dX2_put_4 rfl (by decide) rfl ?_
  refine z_aload_n C dX2_put_5 rfl 1 rfl ?_
  refine z_get C fl_X2_11 dX2_put_6 h1 rfl ?_
  refine z_iload_n C dX2_put_9 rfl 2 rfl ?_
  refine z_bipush (v := 8) C dX2_put_10 (by decide) ?_
  refine z_idiv C dX2_put_12 (by decide) ?_
  refine z_casti (y := nI (a / 8)) (pk_div (d := 8) (by omega) (by omega) (by decide)) ?_
  refine z_laldN C dX2_put_13 h2 (by omega) (by decide) ?_
  refine z_ldc2 (v := 255) C cl_X2_19 dX2_put_14 ?_
  refine z_iload_n C dX2_put_17 rfl 0 rfl ?_
  refine z_lshl C dX2_put_18 rfl ?_
  refine z_ldc2 (v := -1) C cl_X2_21 dX2_put_19 ?_
  refine z_lxor C dX2_put_22 ?_
  refine z_land C dX2_put_23 ?_
  refine z_lstore (lv' := [(4, .long ((f (a / 8) &&& (((255 : Int64) <<< ((nI (a % 8 * 8)).toInt64 &&& 63)) ^^^ (-1 : Int64))))), (3, .int (nI (a % 8 * 8))), (0, .ref (base + 1)), (1, .int (nI a)), (2, .int (x))]) C dX2_put_24 (by decide) rfl ?_
  refine z_aload_n C dX2_put_26 rfl 2 rfl ?_
  refine z_get C fl_X2_11 dX2_put_27 h1 rfl ?_
  refine z_iload_n C dX2_put_30 rfl 3 rfl ?_
  refine z_bipush (v := 8) C dX2_put_31 (by decide) ?_
  refine z_idiv C dX2_put_33 (by decide) ?_
  refine z_casti (y := nI (a / 8)) (pk_div (d := 8) (by omega) (by omega) (by decide)) ?_
  refine z_lload C dX2_put_34 0 rfl ?_
  refine z_iload_n C dX2_put_36 rfl 4 rfl ?_
  refine z_i2l C dX2_put_37 rfl ?_
  refine z_ldc2 (v := 255) C cl_X2_19 dX2_put_38 ?_
  refine z_land C dX2_put_41 ?_
  refine z_iload_n C dX2_put_42 rfl 1 rfl ?_
  refine z_lshl C dX2_put_43 rfl ?_
  refine z_lor C dX2_put_44 ?_
  refine z_lastN C dX2_put_45 h2 (by omega) (by decide) ?_
  exact z_vret C hrt dX2_put_46 (by decide) (by decide) (⟨rfl, _, q_Mb_put ha hm, rfl⟩)

set_option maxHeartbeats 4000000 in
set_option maxRecDepth 100000 in
theorem m_X2_copy (l : Launch) (G : z_G) (base : Nat) (hp : List va_E) (f : Nat → Int64) (mem : Nat → Nat) (h1 : hp[1]? = some (q_oM base)) (h2 : hp[2]? = some (q_aL G 2048 f)) (hm : q_Mb f mem) (a b k : Nat) (ha8 : a % 8 = 0) (hb8 : b % 8 = 0) (ha : a + k ≤ 16384) (hb : b + k ≤ 16384) (hab : a + k ≤ b ∨ b + k ≤ a) : z_M l G base yX2_copy cX2_copy 6 none 2 0 0 [.ref (base + 1), .int (nI a), .int (nI b), .int (nI k)] hp (fun v hp' => v = none ∧ ∃ f', q_Mb f' (q_cpm mem a b k) ∧ hp' = hp.set 2 (q_aL G 2048 f')) := by
  refine z_M.of (lv0 := [(0, .ref (base + 1)), (1, .int (nI a)), (2, .int (nI b)), (3, .int (nI k))]) (by decide) (Nat.le_of_ble_eq_true rfl) rfl ?_
  intro p e s m below meth c hmn hrt C
  refine z_iload_n C dX2_copy_0 rfl 3 rfl ?_
  refine z_bipush (v := 8) C dX2_copy_1 (by decide) ?_
  refine z_idiv C dX2_copy_3 (by decide) ?_
  refine z_casti (y := nI (k / 8)) (pk_div (d := 8) (by omega) (by omega) (by decide)) ?_
  refine z_istore (lv' := [(4, .int (nI (k / 8))), (0, .ref (base + 1)), (1, .int (nI a)), (2, .int (nI b)), (3, .int (nI k))]) C dX2_copy_4 (by decide) rfl ?_
  refine z_aload_n C dX2_copy_6 rfl 1 rfl ?_
  refine z_get C fl_X2_11 dX2_copy_7 h1 rfl ?_
  refine z_iload_n C dX2_copy_10 rfl 2 rfl ?_
  refine z_bipush (v := 8) C dX2_copy_11 (by decide) ?_
  refine z_idiv C dX2_copy_13 (by decide) ?_
  refine z_casti (y := nI (a / 8)) (pk_div (d := 8) (by omega) (by omega) (by decide)) ?_
  refine z_aload_n C dX2_copy_14 rfl 1 rfl ?_
  refine z_get C fl_X2_11 dX2_copy_15 h1 rfl ?_
  refine z_iload_n C dX2_copy_18 rfl 3 rfl ?_
  refine z_bipush (v := 8) C dX2_copy_19 (by decide) ?_
  refine z_idiv C dX2_copy_21 (by decide) ?_
  refine z_casti (y := nI (b / 8)) (pk_div (d := 8) (by omega) (by omega) (by decide)) ?_
  refine z_iload C dX2_copy_22 0 rfl ?_
  refine z_copyl C ml_X2_23 na_copy st_copy in_J10 dX2_copy_24 h2 (by omega) (by omega) (by decide) (by decide) (Nat.le_of_ble_eq_true rfl) ?_
  refine z_iload C dX2_copy_27 0 rfl ?_
  refine z_bipush (v := 8) C dX2_copy_29 (by decide) ?_
  refine z_imul C dX2_copy_31 ?_
  refine z_casti (y := nI (k / 8 * 8)) (pk_mul _ 8) ?_
  refine z_istore (lv' := [(5, .int (nI (k / 8 * 8))), (4, .int (nI (k / 8))), (0, .ref (base + 1)), (1, .int (nI a)), (2, .int (nI b)), (3, .int (nI k))]) C dX2_copy_32 (by decide) rfl ?_
  refine z_lv (lv' := [(5, .int (nI (k / 8 * 8))), (0, .ref (base + 1)), (1, .int (nI a)), (2, .int (nI b)), (3, .int (nI k))]) [0, 2, 3, 4, 5] rfl ?_
  have loop : ∀ (n : Nat) (i : Nat) (g : Nat → Int64), (i ≤ k) → (k + 1 ≤ n + i) → (q_Mb g (q_cpm mem a b i)) → z_R p l e (z_rm 2 0 0) s m ([Value.ref (base + 1), .int (nI a), .int (nI b), .int (nI k)] : List Value).toArray below meth c (MQ below (z_Qc G base (fun v hp' => v = none ∧ ∃ f', q_Mb f' (q_cpm mem a b k) ∧ hp' = hp.set 2 (q_aL G 2048 f'))) ([Value.ref (base + 1), .int (nI a), .int (nI b), .int (nI k)] : List Value).toArray s 0 0 (fun z => base ≤ z)) G base 6 0 0 34 [(5, .int (nI i)), (0, .ref (base + 1)), (1, .int (nI a)), (2, .int (nI b)), (3, .int (nI k))] [] (hp.set 2 (q_aL G 2048 g)) := by
    intro n
    induction n with
    | zero => intro i g hi hn0 hg; exact absurd hn0 (by omega)
    | succ n ih =>
      intro i g hi hn0 hg
      refine z_iload C dX2_copy_34 0 rfl ?_
      refine z_iload_n C dX2_copy_36 rfl 4 rfl ?_
      refine z_icmp_ge (tgt := 62) C dX2_copy_37 (by decide) (fun h37 => ?_) (fun h37 => ?_)
      · skip
        have hie : i = k := by
          rcases Nat.lt_or_ge i k with z | z
          · exact absurd h37 (nI_ge z (by omega))
          · omega
        exact z_vret C hrt dX2_copy_62 (by decide) (by decide) (⟨rfl, g, by rw [hie] at hg; exact hg, rfl⟩)
      · skip
        have hil : i < k := by
          rcases Nat.lt_or_ge i k with z | z
          · exact z
          · exact absurd (nI_le z (by omega)) h37
        refine z_aload_n C dX2_copy_40 rfl 1 rfl ?_
        refine z_iload_n C dX2_copy_41 rfl 3 rfl ?_
        refine z_iload C dX2_copy_42 0 rfl ?_
        refine z_iadd C dX2_copy_44 ?_
        refine z_casti (y := nI (b + i)) (nI_add _ _) ?_
        refine z_aload_n C dX2_copy_45 rfl 1 rfl ?_
        refine z_iload_n C dX2_copy_46 rfl 2 rfl ?_
        refine z_iload C dX2_copy_47 0 rfl ?_
        refine z_iadd C dX2_copy_49 ?_
        refine z_casti (y := nI (a + i)) (nI_add _ _) ?_
        refine z_callV (rest := [.int (nI (b + i)), .ref (base + 1)]) C (m_X2_get l G base _ g _ (z_oth (by decide) h1) (z_self h2) hg (a + i) (by omega)) ml_X2_29 kw_X2_get (z_oth (by decide) h1) rfl rfl rfl (by simp [Value.category]) dX2_copy_50 (by decide) (by decide) (by decide) (by decide) ?_
        rintro _ _ ⟨rfl, rfl⟩
        rw [show q_cpm mem a b i (a + i) = mem (a + i) from q_cpm_src (by omega) (by omega)]
        refine z_st (st' := [.int (nI (mem (a + i))), .int (nI (b + i)), .ref (base + 1)]) rfl ?_
        refine z_callV (rest := []) C (m_X2_put l G base _ g _ (z_oth (by decide) h1) (z_self h2) hg (b + i) (by omega) (nI (mem (a + i)))) ml_X2_32 kw_X2_put (z_oth (by decide) h1) rfl rfl rfl (by simp [Value.category]) dX2_copy_53 (by decide) (by decide) (by decide) (by decide) ?_
        rintro _ _ ⟨rfl, g2, hg2, rfl⟩
        refine z_st (st' := []) rfl ?_
        refine z_iinc (k := 0) (v := nI (i + 1)) (lv' := [(5, .int (nI (i + 1))), (0, .ref (base + 1)), (1, .int (nI a)), (2, .int (nI b)), (3, .int (nI k))]) C dX2_copy_56 rfl (nI_1 i) (by decide) rfl ?_
        refine z_goto (tgt := 34) C dX2_copy_59 (by decide) ?_
        refine z_lv (lv' := [(5, .int (nI (i + 1))), (0, .ref (base + 1)), (1, .int (nI a)), (2, .int (nI b)), (3, .int (nI k))]) [0, 1, 2, 3, 4] rfl ?_
        refine z_hp (hp' := hp.set 2 (q_aL G 2048 g2)) (by rw [List.set_set]) ?_
        exact ih (i + 1) g2 (by omega) (by omega) (by rw [nI_byte (hm (a + i) (by omega)).1, q_cpm_step] at hg2; exact hg2)
  exact loop (k + 1) (k / 8 * 8) _ (by omega) (by omega) (q_Mb_cpw ha8 hb8 ha hb hm)

set_option maxHeartbeats 4000000 in
set_option maxRecDepth 100000 in
theorem m_X3_isLive (l : Launch) (G : z_G) (base : Nat) (hp : List va_E) (j r n ob : Nat) (f : Nat → Nat) (w : Int64) (hj : hp[j]? = some (q_oS r n ob w base)) (hr : hp[r]? = some (q_aI G 64 f)) (hjr : j ≠ r) (i : Nat) (hi : i < 64) : z_M l G base yX3_isLive cX3_isLive 2 (some .boolean) 0 0 0 [.ref (base + j), .int (nI i)] hp (fun v hp' => v = some (.int (bI (lb w i))) ∧ hp' = hp) := by
  refine z_M.of (lv0 := [(0, .ref (base + j)), (1, .int (nI i))]) (by decide) (Nat.le_of_ble_eq_true rfl) rfl ?_
  intro p e s m below meth c hmn hrt C
  refine z_aload_n C dX3_isLive_0 rfl 0 rfl ?_
  refine z_get C fl_X3_28 dX3_isLive_1 hj rfl ?_
  refine z_iload_n C dX3_isLive_4 rfl 1 rfl ?_
  refine z_lushr C dX3_isLive_5 rfl ?_
  refine z_lconst (v := 1) C dX3_isLive_6 (by decide) ?_
  refine z_land C dX3_isLive_7 ?_
  refine z_lconst (v := 0) C dX3_isLive_8 (by decide) ?_
  refine z_lcmp C dX3_isLive_9 ?_
  refine z_if_eq (tgt := 17) C dX3_isLive_10 (by decide) (fun h10 => ?_) (fun h10 => ?_)
  · skip
    refine z_iconst (v := 0) C dX3_isLive_17 (by decide) ?_
    exact z_iret C hrt rfl dX3_isLive_18 (by decide) (by decide) (⟨by rw [(lb_test hi).mp h10]; rfl, rfl⟩)
  · skip
    refine z_iconst (v := 1) C dX3_isLive_13 (by decide) ?_
    refine z_goto (tgt := 18) C dX3_isLive_14 (by decide) ?_
    exact z_iret C hrt rfl dX3_isLive_18 (by decide) (by decide) (⟨by rw [show lb w i = true by rcases hb : lb w i with _ | _; exact absurd ((lb_test hi).mpr hb) h10; rfl]; rfl, rfl⟩)

set_option maxHeartbeats 4000000 in
set_option maxRecDepth 100000 in
theorem m_X3_liveCount (l : Launch) (G : z_G) (base : Nat) (hp : List va_E) (j r n ob : Nat) (f : Nat → Nat) (w : Int64) (hj : hp[j]? = some (q_oS r n ob w base)) (hr : hp[r]? = some (q_aI G 64 f)) (hjr : j ≠ r) (hno : n ≤ ob) : z_M l G base yX3_liveCount cX3_liveCount 1 (some .int) 0 0 0 [.ref (base + j)] hp (fun v hp' => v = some (.int (nI (ob - n))) ∧ hp' = hp) := by
  refine z_M.of (lv0 := [(0, .ref (base + j))]) (by decide) (Nat.le_of_ble_eq_true rfl) rfl ?_
  intro p e s m below meth c hmn hrt C
  refine z_aload_n C dX3_liveCount_0 rfl 0 rfl ?_
  refine z_get C fl_X3_21 dX3_liveCount_1 hj rfl ?_
  refine z_aload_n C dX3_liveCount_4 rfl 0 rfl ?_
  refine z_get C fl_X3_25 dX3_liveCount_5 hj rfl ?_
  refine z_isub C dX3_liveCount_8 ?_
  refine z_casti (y := nI (ob - n)) (pk_sub hno) ?_
  exact z_iret C hrt rfl dX3_liveCount_9 (by decide) (by decide) (⟨rfl, rfl⟩)

set_option maxHeartbeats 4000000 in
set_option maxRecDepth 100000 in
theorem m_X3_isPartlyLive (l : Launch) (G : z_G) (base : Nat) (hp : List va_E) (j r n ob : Nat) (f : Nat → Nat) (w : Int64) (hj : hp[j]? = some (q_oS r n ob w base)) (hr : hp[r]? = some (q_aI G 64 f)) (hjr : j ≠ r) (hno : n ≤ ob) (hob : ob ≤ 64) : z_M l G base yX3_isPartlyLive cX3_isPartlyLive 1 (some .boolean) 0 0 0 [.ref (base + j)] hp (fun v hp' => v = some (.int (bI (decide (0 < n ∧ n < ob)))) ∧ hp' = hp) := by
  refine z_M.of (lv0 := [(0, .ref (base + j))]) (by decide) (Nat.le_of_ble_eq_true rfl) rfl ?_
  intro p e s m below meth c hmn hrt C
  refine z_aload_n C dX3_isPartlyLive_0 rfl 0 rfl ?_
  refine z_get C fl_X3_25 dX3_isPartlyLive_1 hj rfl ?_
  refine z_if_le (tgt := 22) C dX3_isPartlyLive_4 (by decide) (fun h4 => ?_) (fun h4 => ?_)
  · skip
    refine z_iconst (v := 0) C dX3_isPartlyLive_22 (by decide) ?_
    exact z_iret C hrt rfl dX3_isPartlyLive_23 (by decide) (by decide) (⟨by rw [← bI_f (by first | exact fun z => absurd h4 (nI_nle z.1 (by omega)) | exact fun z => absurd h15 (nI_ge z.2 (by omega)))], rfl⟩)
  · skip
    refine z_aload_n C dX3_isPartlyLive_7 rfl 0 rfl ?_
    refine z_get C fl_X3_25 dX3_isPartlyLive_8 hj rfl ?_
    refine z_aload_n C dX3_isPartlyLive_11 rfl 0 rfl ?_
    refine z_get C fl_X3_21 dX3_isPartlyLive_12 hj rfl ?_
    refine z_icmp_ge (tgt := 22) C dX3_isPartlyLive_15 (by decide) (fun h15 => ?_) (fun h15 => ?_)
    · skip
      refine z_iconst (v := 0) C dX3_isPartlyLive_22 (by decide) ?_
      exact z_iret C hrt rfl dX3_isPartlyLive_23 (by decide) (by decide) (⟨by rw [← bI_f (by first | exact fun z => absurd h4 (nI_nle z.1 (by omega)) | exact fun z => absurd h15 (nI_ge z.2 (by omega)))], rfl⟩)
    · skip
      refine z_iconst (v := 1) C dX3_isPartlyLive_18 (by decide) ?_
      refine z_goto (tgt := 23) C dX3_isPartlyLive_19 (by decide) ?_
      exact z_iret C hrt rfl dX3_isPartlyLive_23 (by decide) (by decide) (⟨by rw [← bI_t ⟨by rcases Nat.eq_zero_or_pos n with z | z; exact absurd (by rw [z]; decide) h4; exact z, by rcases Nat.lt_or_ge n ob with z | z; exact z; exact absurd (nI_le z (by omega)) h15⟩], rfl⟩)

set_option maxHeartbeats 4000000 in
set_option maxRecDepth 100000 in
theorem m_X3_takeFront (l : Launch) (G : z_G) (base : Nat) (hp : List va_E) (j r n ob : Nat) (f : Nat → Nat) (w : Int64) (hj : hp[j]? = some (q_oS r n ob w base)) (hr : hp[r]? = some (q_aI G 64 f)) (hjr : j ≠ r) (hn : 1 ≤ n) (hno : n ≤ ob) (hob : ob ≤ 64) (hf : f (n - 1) < 64) : z_M l G base yX3_takeFront cX3_takeFront 2 (some .int) 0 0 0 [.ref (base + j)] hp (fun v hp' => v = some (.int (nI (f (n - 1)))) ∧ hp' = hp.set j (q_oS r (n - 1) ob (w ||| ((1 : Int64) <<< ((nI (f (n - 1))).toInt64 &&& 63))) base)) := by
  refine z_M.of (lv0 := [(0, .ref (base + j))]) (by decide) (Nat.le_of_ble_eq_true rfl) rfl ?_
  intro p e s m below meth c hmn hrt C
  refine z_aload_n C dX3_takeFront_0 rfl 0 rfl ?_
  refine z_get C fl_X3_25 dX3_takeFront_1 hj rfl ?_
  refine z_iconst (v := 1) C dX3_takeFront_4 (by decide) ?_
  refine z_icmp_ge (tgt := 10) C dX3_takeFront_5 (by decide) (fun h5 => ?_) (fun h5 => absurd h5 (fun z => z (nI_le (a := 1) hn (by omega))))
  refine z_aload_n C dX3_takeFront_10 rfl 0 rfl ?_
  refine z_dup C dX3_takeFront_11 rfl ?_
  refine z_get C fl_X3_25 dX3_takeFront_12 hj rfl ?_
  refine z_iconst (v := 1) C dX3_takeFront_15 (by decide) ?_
  refine z_isub C dX3_takeFront_16 ?_
  refine z_casti (y := nI (n - 1)) (pk_sub (b := 1) hn) ?_
  refine z_put C fl_X3_25 fp_X3 rfl dX3_takeFront_17 hj (by simp) rfl rfl ?_
  refine z_aload_n C dX3_takeFront_20 rfl 0 rfl ?_
  refine z_get C fl_X3_9 dX3_takeFront_21 (z_self hj) rfl ?_
  refine z_aload_n C dX3_takeFront_24 rfl 0 rfl ?_
  refine z_get C fl_X3_25 dX3_takeFront_25 (z_self hj) rfl ?_
  refine z_ialdK C dX3_takeFront_28 (z_oth (by first | decide | assumption | exact Ne.symm (by assumption) | omega) hr) (by omega) (by decide) ?_
  refine z_istore_n (lv' := [(1, .int (nI (f (n - 1)))), (0, .ref (base + j))]) C dX3_takeFront_29 rfl (by decide) rfl ?_
  refine z_aload_n C dX3_takeFront_30 rfl 1 rfl ?_
  refine z_dup C dX3_takeFront_31 rfl ?_
  refine z_get C fl_X3_28 dX3_takeFront_32 (z_self hj) rfl ?_
  refine z_lconst (v := 1) C dX3_takeFront_35 (by decide) ?_
  refine z_iload_n C dX3_takeFront_36 rfl 0 rfl ?_
  refine z_lshl C dX3_takeFront_37 rfl ?_
  refine z_lor C dX3_takeFront_38 ?_
  refine z_put C fl_X3_28 fp_X3 rfl dX3_takeFront_39 (z_self hj) (by simp) rfl rfl ?_
  refine z_iload_n C dX3_takeFront_42 rfl 0 rfl ?_
  exact z_iret C hrt rfl dX3_takeFront_43 (by decide) (by decide) (⟨rfl, by rw [List.set_set]; rfl⟩)

set_option maxHeartbeats 4000000 in
set_option maxRecDepth 100000 in
theorem m_X3_putFront (l : Launch) (G : z_G) (base : Nat) (hp : List va_E) (j r n ob : Nat) (f : Nat → Nat) (w : Int64) (hj : hp[j]? = some (q_oS r n ob w base)) (hr : hp[r]? = some (q_aI G 64 f)) (hjr : j ≠ r) (hno : n < ob) (hob : ob ≤ 64) (i : Nat) (hi : i < ob) : z_M l G base yX3_putFront cX3_putFront 2 none 0 0 0 [.ref (base + j), .int (nI i)] hp (fun v hp' => v = none ∧ hp' = (hp.set r (q_aI G 64 (va_up f n i))).set j (q_oS r (n + 1) ob (w &&& (((1 : Int64) <<< ((nI i).toInt64 &&& 63)) ^^^ (-1))) base)) := by
  refine z_M.of (lv0 := [(0, .ref (base + j)), (1, .int (nI i))]) (by decide) (Nat.le_of_ble_eq_true rfl) rfl ?_
  intro p e s m below meth c hmn hrt C
  refine z_iload_n C dX3_putFront_0 rfl 1 rfl ?_
  refine z_if_lt (tgt := 23) C dX3_putFront_1 (by decide) (fun h1 => absurd h1 (nI_pos (by omega))) (fun h1 => ?_)
  refine z_iload_n C dX3_putFront_4 rfl 1 rfl ?_
  refine z_aload_n C dX3_putFront_5 rfl 0 rfl ?_
  refine z_get C fl_X3_21 dX3_putFront_6 hj rfl ?_
  refine z_icmp_ge (tgt := 23) C dX3_putFront_9 (by decide) (fun h9 => absurd h9 (nI_ge hi (by omega))) (fun h9 => ?_)
  refine z_aload_n C dX3_putFront_12 rfl 0 rfl ?_
  refine z_get C fl_X3_25 dX3_putFront_13 hj rfl ?_
  refine z_aload_n C dX3_putFront_16 rfl 0 rfl ?_
  refine z_get C fl_X3_21 dX3_putFront_17 hj rfl ?_
  refine z_icmp_lt (tgt := 24) C dX3_putFront_20 (by decide) (fun h20 => ?_) (fun h20 => absurd h20 (fun z => z (nI_lt hno (by omega))))
  refine z_aload_n C dX3_putFront_24 rfl 0 rfl ?_
  refine z_get C fl_X3_9 dX3_putFront_25 hj rfl ?_
  refine z_aload_n C dX3_putFront_28 rfl 0 rfl ?_
  refine z_get C fl_X3_25 dX3_putFront_29 hj rfl ?_
  refine z_iload_n C dX3_putFront_32 rfl 1 rfl ?_
  refine z_iastK C dX3_putFront_33 hr (by omega) (by decide) ?_
  refine z_aload_n C dX3_putFront_34 rfl 0 rfl ?_
  refine z_dup C dX3_putFront_35 rfl ?_
  refine z_get C fl_X3_25 dX3_putFront_36 (z_oth (by first | decide | assumption | exact Ne.symm (by assumption) | omega) hj) rfl ?_
  refine z_iconst (v := 1) C dX3_putFront_39 (by decide) ?_
  refine z_iadd C dX3_putFront_40 ?_
  refine z_casti (y := nI (n + 1)) (nI_1 n) ?_
  refine z_put C fl_X3_25 fp_X3 rfl dX3_putFront_41 (z_oth (by first | decide | assumption | exact Ne.symm (by assumption) | omega) hj) (by simp) rfl rfl ?_
  refine z_aload_n C dX3_putFront_44 rfl 0 rfl ?_
  refine z_dup C dX3_putFront_45 rfl ?_
  refine z_get C fl_X3_28 dX3_putFront_46 (z_self (z_oth (by first | decide | assumption | exact Ne.symm (by assumption) | omega) hj)) rfl ?_
  refine z_lconst (v := 1) C dX3_putFront_49 (by decide) ?_
  refine z_iload_n C dX3_putFront_50 rfl 1 rfl ?_
  refine z_lshl C dX3_putFront_51 rfl ?_
  refine z_ldc2 (v := -1) C cl_X3_32 dX3_putFront_52 ?_
  refine z_lxor C dX3_putFront_55 ?_
  refine z_land C dX3_putFront_56 ?_
  refine z_put C fl_X3_28 fp_X3 rfl dX3_putFront_57 (z_self (z_oth (by first | decide | assumption | exact Ne.symm (by assumption) | omega) hj)) (by simp) rfl rfl ?_
  exact z_vret C hrt dX3_putFront_60 (by decide) (by decide) (⟨rfl, by rw [List.set_set]; rfl⟩)

set_option maxHeartbeats 4000000 in
set_option maxRecDepth 100000 in
theorem m_X3_layOut (l : Launch) (G : z_G) (base : Nat) (hp : List va_E) (j r n0 ob0 ob : Nat) (f : Nat → Nat) (w : Int64) (hj : hp[j]? = some (q_oS r n0 ob0 w base)) (hr : hp[r]? = some (q_aI G 64 f)) (hjr : j ≠ r) (hob : ob ≤ 64) : z_M l G base yX3_layOut cX3_layOut 3 none 1 0 0 [.ref (base + j), .int (nI ob)] hp (fun v hp' => v = none ∧ hp' = (hp.set r (q_aI G 64 (q_row ob ob 0 f))).set j (q_oS r ob ob 0 base)) := by
  refine z_M.of (lv0 := [(0, .ref (base + j)), (1, .int (nI ob))]) (by decide) (Nat.le_of_ble_eq_true rfl) rfl ?_
  intro p e s m below meth c hmn hrt C
  refine z_aload_n C dX3_layOut_0 rfl 0 rfl ?_
  refine z_iload_n C dX3_layOut_1 rfl 1 rfl ?_
  refine z_bipush (v := 64) C dX3_layOut_2 (by decide) ?_
  refine z_mmin C ml_X3_15 st_min in_J9 kc_min dX3_layOut_4 (by decide) (Nat.le_of_ble_eq_true rfl) (by decide) (by decide) ?_
  refine z_casti (y := nI ob) (by rw [show (64 : Int32) = nI 64 from rfl, min_nI (by omega) (by omega), Nat.min_eq_left hob]) ?_
  refine z_put C fl_X3_21 fp_X3 rfl dX3_layOut_7 hj (by simp) rfl rfl ?_
  refine z_aload_n C dX3_layOut_10 rfl 0 rfl ?_
  refine z_aload_n C dX3_layOut_11 rfl 0 rfl ?_
  refine z_get C fl_X3_21 dX3_layOut_12 (z_self hj) rfl ?_
  refine z_put C fl_X3_25 fp_X3 rfl dX3_layOut_15 (z_self hj) (by simp) rfl rfl ?_
  refine z_aload_n C dX3_layOut_18 rfl 0 rfl ?_
  refine z_lconst (v := 0) C dX3_layOut_19 (by decide) ?_
  refine z_put C fl_X3_28 fp_X3 rfl dX3_layOut_20 (z_self (z_self hj)) (by simp) rfl rfl ?_
  refine z_iconst (v := 0) C dX3_layOut_23 (by decide) ?_
  refine z_casti (y := nI 0) (rfl) ?_
  refine z_istore_n (lv' := [(2, .int (nI 0)), (0, .ref (base + j)), (1, .int (nI ob))]) C dX3_layOut_24 rfl (by decide) rfl ?_
  refine z_lv (lv' := [(2, .int (nI 0)), (0, .ref (base + j))]) [0, 1] rfl ?_
  have loop : ∀ (n : Nat) (i : Nat) (g : Nat → Nat), (i ≤ ob) → (ob + 1 ≤ n + i) → (q_row ob (ob - i) i g = q_row ob ob 0 f) → z_R p l e (z_rm 1 0 0) s m ([Value.ref (base + j), .int (nI ob)] : List Value).toArray below meth c (MQ below (z_Qc G base (fun v hp' => v = none ∧ hp' = (hp.set r (q_aI G 64 (q_row ob ob 0 f))).set j (q_oS r ob ob 0 base))) ([Value.ref (base + j), .int (nI ob)] : List Value).toArray s 0 0 (fun z => base ≤ z)) G base 3 0 0 25 [(2, .int (nI i)), (0, .ref (base + j))] [] ((hp.set r (q_aI G 64 g)).set j (q_oS r ob ob 0 base)) := by
    intro n
    induction n with
    | zero => intro i g hi hn0 hv; exact absurd hn0 (by omega)
    | succ n ih =>
      intro i g hi hn0 hv
      refine z_iload_n C dX3_layOut_25 rfl 0 rfl ?_
      refine z_aload_n C dX3_layOut_26 rfl 1 rfl ?_
      refine z_get C fl_X3_21 dX3_layOut_27 (z_self (z_oth (by first | decide | assumption | exact Ne.symm (by assumption) | omega) hj)) rfl ?_
      refine z_icmp_ge (tgt := 53) C dX3_layOut_30 (by decide) (fun h30 => ?_) (fun h30 => ?_)
      · skip
        have hie : i = ob := by
          rcases Nat.lt_or_ge i ob with z | z
          · exact absurd h30 (nI_ge z (by omega))
          · omega
        exact z_vret C hrt dX3_layOut_53 (by decide) (by decide) (⟨rfl, by rw [← hv, hie, Nat.sub_self]; rfl⟩)
      · skip
        have hil : i < ob := by
          rcases Nat.lt_or_ge i ob with z | z
          · exact z
          · exact absurd (nI_le z (by omega)) h30
        refine z_aload_n C dX3_layOut_33 rfl 1 rfl ?_
        refine z_get C fl_X3_9 dX3_layOut_34 (z_self (z_oth (by first | decide | assumption | exact Ne.symm (by assumption) | omega) hj)) rfl ?_
        refine z_iload_n C dX3_layOut_37 rfl 0 rfl ?_
        refine z_aload_n C dX3_layOut_38 rfl 1 rfl ?_
        refine z_get C fl_X3_21 dX3_layOut_39 (z_self (z_oth (by first | decide | assumption | exact Ne.symm (by assumption) | omega) hj)) rfl ?_
        refine z_iconst (v := 1) C dX3_layOut_42 (by decide) ?_
        refine z_isub C dX3_layOut_43 ?_
        refine z_iload_n C dX3_layOut_44 rfl 0 rfl ?_
        refine z_isub C dX3_layOut_45 ?_
        refine z_casti (y := nI (ob - 1 - i)) (by rw [show nI ob - 1 = nI (ob - 1) from pk_sub (b := 1) (by omega)]; exact pk_sub (by omega)) ?_
        refine z_iastK C dX3_layOut_46 (z_oth (by first | decide | assumption | exact Ne.symm (by assumption) | omega) (z_self hr)) (by omega) (by decide) ?_
        refine z_iinc (k := 0) (v := nI (i + 1)) (lv' := [(2, .int (nI (i + 1))), (0, .ref (base + j))]) C dX3_layOut_47 rfl (nI_1 i) (by decide) rfl ?_
        refine z_goto (tgt := 25) C dX3_layOut_50 (by decide) ?_
        refine z_lv (lv' := [(2, .int (nI (i + 1))), (0, .ref (base + j))]) [0, 1] rfl ?_
        refine z_hp (hp' := (hp.set r (q_aI G 64 (va_up g i (ob - 1 - i)))).set j (q_oS r ob ob 0 base)) (by rw [List.set_comm _ _ (Ne.symm hjr), List.set_set, List.set_comm _ _ hjr]; rfl) ?_
        exact ih (i + 1) _ (by omega) (by omega) (by rw [← hv, show ob - i = (ob - (i + 1)) + 1 by omega]; rfl)
  refine z_hp (hp' := (hp.set r (q_aI G 64 f)).set j (q_oS r ob ob 0 base)) (by rw [List.set_set, List.set_set, z_set0 hr]; rfl) ?_
  exact loop (ob + 1) 0 f (by omega) (by omega) rfl
