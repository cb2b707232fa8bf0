set_option maxHeartbeats 4000000 in
set_option maxRecDepth 100000 in
theorem m_X5_resize_2 (l : Launch) (G : z_G) (base : Nat) (xs : Nat → va_E) (r : r_T) (tl : List va_E) (nc : Nat) (hw : r_wf r nc) (x y : Int32) (h : r_ca r x < 0) : z_M l G base yX5_resize cX5_resize 8 (some .int) 8 0 0 [.ref (base + 16), .int (x), .int (y)] (hpM G base xs r tl) (fun v hp' => v = some (.int (r_ca r (x))) ∧ hp' = hpM G base xs r tl) := by
  refine z_M.of (lv0 := [(0, .ref (base + 16)), (1, .int (x)), (2, .int (y))]) (by decide) (Nat.le_of_ble_eq_true rfl) rfl ?_
  intro p e s m below meth c hmn hrt C
  refine z_aload_n C dX5_resize_0 rfl 0 rfl ?_
  refine z_iload_n C dX5_resize_1 rfl 1 rfl ?_
  refine z_callV (rest := []) C (m_X5_classAt l G base xs r tl nc hw (x)) ml_X5_143 kw_X5_classAt rfl rfl rfl rfl (by simp [Value.category]) dX5_resize_2 (by decide) (by decide) (by decide) (by decide) ?_
  rintro _ _ ⟨rfl, rfl⟩
  refine z_st (st' := [.int (r_ca r (x))]) rfl ?_
  refine z_istore_n (lv' := [(3, .int (r_ca r (x))), (0, .ref (base + 16)), (1, .int (x)), (2, .int (y))]) C dX5_resize_5 rfl (by decide) rfl ?_
  refine z_iload_n C dX5_resize_6 rfl 0 rfl ?_
  refine z_if_ge (tgt := 12) C dX5_resize_7 (by decide) (fun h7 => absurd h7 (Int32.not_le.mpr h)) (fun h7 => ?_)
  refine z_iload_n C dX5_resize_10 rfl 0 rfl ?_
  exact z_iret C hrt rfl dX5_resize_11 (by decide) (by decide) (⟨rfl, rfl⟩)

set_option maxHeartbeats 4000000 in
set_option maxRecDepth 100000 in
theorem m_X5_resize_3 (l : Launch) (G : z_G) (base : Nat) (xs : Nat → va_E) (r : r_T) (tl : List va_E) (nc : Nat) (hw : r_wf r nc) (x y : Int32) (h : ¬ r_ca r x < 0) (hy : ¬ (1 ≤ y ∧ y ≤ 4096)) : z_M l G base yX5_resize cX5_resize 8 (some .int) 8 0 0 [.ref (base + 16), .int (x), .int (y)] (hpM G base xs r tl) (fun v hp' => v = some (.int (-1)) ∧ hp' = hpM G base xs r tl) := by
  refine z_M.of (lv0 := [(0, .ref (base + 16)), (1, .int (x)), (2, .int (y))]) (by decide) (Nat.le_of_ble_eq_true rfl) rfl ?_
  intro p e s m below meth c hmn hrt C
  refine z_aload_n C dX5_resize_0 rfl 0 rfl ?_
  refine z_iload_n C dX5_resize_1 rfl 1 rfl ?_
  refine z_callV (rest := []) C (m_X5_classAt l G base xs r tl nc hw (x)) ml_X5_143 kw_X5_classAt rfl rfl rfl rfl (by simp [Value.category]) dX5_resize_2 (by decide) (by decide) (by decide) (by decide) ?_
  rintro _ _ ⟨rfl, rfl⟩
  refine z_st (st' := [.int (r_ca r (x))]) rfl ?_
  refine z_istore_n (lv' := [(3, .int (r_ca r (x))), (0, .ref (base + 16)), (1, .int (x)), (2, .int (y))]) C dX5_resize_5 rfl (by decide) rfl ?_
  refine z_iload_n C dX5_resize_6 rfl 0 rfl ?_
  refine z_if_ge (tgt := 12) C dX5_resize_7 (by decide) (fun h7 => ?_) (fun h7 => absurd h7 (fun z => z (Int32.not_lt.mp h)))
  refine z_iload_n C dX5_resize_12 rfl 3 rfl ?_
  refine z_iconst (v := 1) C dX5_resize_13 (by decide) ?_
  refine z_sipush (v := 4096) C dX5_resize_14 (by decide) ?_
  refine z_callS (rest := []) C (m_X5_in l G base _ (y) ((1 : Int32)) ((4096 : Int32))) ml_X5_62 kw_X5_in rfl rfl (by simp [Value.category]) dX5_resize_17 (by decide) (by decide) (by decide) (by decide) ?_
  rintro _ _ ⟨rfl, rfl⟩
  refine z_st (st' := [.int ((bI (decide ((1 : Int32) ≤ y ∧ y ≤ (4096 : Int32)))))]) rfl ?_
  refine z_if_ne (tgt := 25) C dX5_resize_20 (by decide) (fun h20 => absurd h20 (fun z => hy (bI_ne z))) (fun h20 => ?_)
  refine z_iconst (v := -1) C dX5_resize_23 (by decide) ?_
  exact z_iret C hrt rfl dX5_resize_24 (by decide) (by decide) (⟨rfl, rfl⟩)

set_option maxHeartbeats 4000000 in
set_option maxRecDepth 100000 in
theorem m_X5_resize_4 (l : Launch) (G : z_G) (base : Nat) (xs : Nat → va_E) (r : r_T) (tl : List va_E) (nc : Nat) (hw : r_wf r nc) (x : Int32) (b : Nat) (h : ¬ r_ca r x < 0) (hb : 1 ≤ b) (hb2 : b ≤ 4096) (he : r_ca r x = nI (k_cls b)) : z_M l G base yX5_resize cX5_resize 8 (some .int) 8 0 0 [.ref (base + 16), .int (x), .int (nI b)] (hpM G base xs r tl) (fun v hp' => v = some (.int ((x))) ∧ hp' = hpM G base xs r tl) := by
  refine z_M.of (lv0 := [(0, .ref (base + 16)), (1, .int (x)), (2, .int (nI b))]) (by decide) (Nat.le_of_ble_eq_true rfl) rfl ?_
  intro p e s m below meth c hmn hrt C
  refine z_aload_n C dX5_resize_0 rfl 0 rfl ?_
  refine z_iload_n C dX5_resize_1 rfl 1 rfl ?_
  refine z_callV (rest := []) C (m_X5_classAt l G base xs r tl nc hw (x)) ml_X5_143 kw_X5_classAt rfl rfl rfl rfl (by simp [Value.category]) dX5_resize_2 (by decide) (by decide) (by decide) (by decide) ?_
  rintro _ _ ⟨rfl, rfl⟩
  refine z_st (st' := [.int (r_ca r (x))]) rfl ?_
  refine z_istore_n (lv' := [(3, .int (r_ca r (x))), (0, .ref (base + 16)), (1, .int (x)), (2, .int (nI b))]) C dX5_resize_5 rfl (by decide) rfl ?_
  refine z_iload_n C dX5_resize_6 rfl 0 rfl ?_
  refine z_if_ge (tgt := 12) C dX5_resize_7 (by decide) (fun h7 => ?_) (fun h7 => absurd h7 (fun z => z (Int32.not_lt.mp h)))
  refine z_iload_n C dX5_resize_12 rfl 3 rfl ?_
  refine z_iconst (v := 1) C dX5_resize_13 (by decide) ?_
  refine z_sipush (v := 4096) C dX5_resize_14 (by decide) ?_
  refine z_callS (rest := []) C (m_X5_in l G base _ (nI b) ((1 : Int32)) ((4096 : Int32))) ml_X5_62 kw_X5_in rfl rfl (by simp [Value.category]) dX5_resize_17 (by decide) (by decide) (by decide) (by decide) ?_
  rintro _ _ ⟨rfl, rfl⟩
  refine z_st (st' := [.int ((bI (decide ((1 : Int32) ≤ nI b ∧ nI b ≤ (4096 : Int32)))))]) rfl ?_
  refine z_if_ne (tgt := 25) C dX5_resize_20 (by decide) (fun h20 => ?_) (fun h20 => absurd h20 (fun q => bI_eq q ⟨nI_le (a := 1) hb (by omega), nI_le (b := 4096) hb2 (by decide)⟩))
  refine z_iload_n C dX5_resize_25 rfl 3 rfl ?_
  refine z_callS (rest := []) C (m_X5_classOf l G base _ b hb hb2) ml_X5_137 kw_X5_classOf rfl rfl (by simp [Value.category]) dX5_resize_26 (by decide) (by decide) (by decide) (by decide) ?_
  rintro _ _ ⟨rfl, rfl⟩
  refine z_st (st' := [.int (nI (k_cls b))]) rfl ?_
  refine z_istore (lv' := [(4, .int (nI (k_cls b))), (3, .int (r_ca r (x))), (0, .ref (base + 16)), (1, .int (x)), (2, .int (nI b))]) C dX5_resize_29 (by decide) rfl ?_
  refine z_iload_n C dX5_resize_31 rfl 1 rfl ?_
  refine z_iload C dX5_resize_32 0 rfl ?_
  refine z_icmp_ne (tgt := 39) C dX5_resize_34 (by decide) (fun h34 => absurd h34 (fun z => z he)) (fun h34 => ?_)
  refine z_iload_n C dX5_resize_37 rfl 3 rfl ?_
  exact z_iret C hrt rfl dX5_resize_38 (by decide) (by decide) (⟨rfl, rfl⟩)
