theorem iw_X0 : ∀ w ∈ wsX00, w ∈ z_W := fun w h => z_in ((by decide +kernel : ∀ w ∈ wsX00, w ∈ lw_tbl) w h) (List.all_eq_true.mp (by decide +kernel : wsX00.all goodWord = true) w h)
theorem fp_X0 : z_FP 0 tyX0 := ⟨_, rfl, tyX0_ok, nmX0⟩
theorem iw_X1 : ∀ w ∈ wsX10, w ∈ z_W := fun w h => z_in ((by decide +kernel : ∀ w ∈ wsX10, w ∈ lw_tbl) w h) (List.all_eq_true.mp (by decide +kernel : wsX10.all goodWord = true) w h)
theorem fp_X1 : z_FP 1 tyX1 := ⟨_, rfl, tyX1_ok, nmX1⟩
theorem iw_X2 : ∀ w ∈ wsX20, w ∈ z_W := fun w h => z_in ((by decide +kernel : ∀ w ∈ wsX20, w ∈ lw_tbl) w h) (List.all_eq_true.mp (by decide +kernel : wsX20.all goodWord = true) w h)
theorem fp_X2 : z_FP 2 tyX2 := ⟨_, rfl, tyX2_ok, nmX2⟩
theorem iw_X3 : ∀ w ∈ wsX30, w ∈ z_W := fun w h => z_in ((by decide +kernel : ∀ w ∈ wsX30, w ∈ lw_tbl) w h) (List.all_eq_true.mp (by decide +kernel : wsX30.all goodWord = true) w h)
theorem fp_X3 : z_FP 3 tyX3 := ⟨_, rfl, tyX3_ok, nmX3⟩
theorem iw_X4 : ∀ w ∈ wsX40, w ∈ z_W := fun w h => z_in ((by decide +kernel : ∀ w ∈ wsX40, w ∈ lw_tbl) w h) (List.all_eq_true.mp (by decide +kernel : wsX40.all goodWord = true) w h)
theorem fp_X4 : z_FP 4 tyX4 := ⟨_, rfl, tyX4_ok, nmX4⟩
theorem iw_X5 : ∀ w ∈ wsX50, w ∈ z_W := fun w h => z_in ((by decide +kernel : ∀ w ∈ wsX50, w ∈ lw_tbl) w h) (List.all_eq_true.mp (by decide +kernel : wsX50.all goodWord = true) w h)
theorem fp_X5 : z_FP 5 tyX5 := ⟨_, rfl, tyX5_ok, nmX5⟩
theorem fl_X2_11 : z_FL RX2 11 2 0 := ⟨_, rfl, by decide, iw_X2, z_in (List.mem_of_getElem? (i := 65) (by decide +kernel)) rfl⟩
theorem fl_X0_9 : z_FL RX0 9 0 0 := ⟨_, rfl, by decide, iw_X0, z_in (List.mem_of_getElem? (i := 76) (by decide +kernel)) rfl⟩
theorem fl_X0_15 : z_FL RX0 15 0 1 := ⟨_, rfl, by decide, iw_X0, z_in (List.mem_of_getElem? (i := 77) (by decide +kernel)) rfl⟩
theorem fl_X0_19 : z_FL RX0 19 0 2 := ⟨_, rfl, by decide, iw_X0, z_in (List.mem_of_getElem? (i := 78) (by decide +kernel)) rfl⟩
theorem fl_X0_22 : z_FL RX0 22 0 3 := ⟨_, rfl, by decide, iw_X0, z_in (List.mem_of_getElem? (i := 79) (by decide +kernel)) rfl⟩
theorem fl_X4_153 : z_FL RX4 153 0 3 := ⟨_, rfl, by decide, iw_X0, z_in (List.mem_of_getElem? (i := 80) (by decide +kernel)) rfl⟩
theorem fl_X4_48 : z_FL RX4 48 0 4 := ⟨_, rfl, by decide, iw_X0, z_in (List.mem_of_getElem? (i := 81) (by decide +kernel)) rfl⟩
theorem fl_X0_32 : z_FL RX0 32 0 4 := ⟨_, rfl, by decide, iw_X0, z_in (List.mem_of_getElem? (i := 82) (by decide +kernel)) rfl⟩
theorem fl_X0_29 : z_FL RX0 29 0 5 := ⟨_, rfl, by decide, iw_X0, z_in (List.mem_of_getElem? (i := 83) (by decide +kernel)) rfl⟩
theorem fl_X4_59 : z_FL RX4 59 0 5 := ⟨_, rfl, by decide, iw_X0, z_in (List.mem_of_getElem? (i := 84) (by decide +kernel)) rfl⟩
theorem fl_X0_40 : z_FL RX0 40 0 6 := ⟨_, rfl, by decide, iw_X0, z_in (List.mem_of_getElem? (i := 85) (by decide +kernel)) rfl⟩
theorem fl_X4_160 : z_FL RX4 160 0 6 := ⟨_, rfl, by decide, iw_X0, z_in (List.mem_of_getElem? (i := 86) (by decide +kernel)) rfl⟩
theorem fl_X0_60 : z_FL RX0 60 0 7 := ⟨_, rfl, by decide, iw_X0, z_in (List.mem_of_getElem? (i := 87) (by decide +kernel)) rfl⟩
theorem fl_X4_176 : z_FL RX4 176 0 7 := ⟨_, rfl, by decide, iw_X0, z_in (List.mem_of_getElem? (i := 88) (by decide +kernel)) rfl⟩
theorem fl_X0_51 : z_FL RX0 51 0 8 := ⟨_, rfl, by decide, iw_X0, z_in (List.mem_of_getElem? (i := 89) (by decide +kernel)) rfl⟩
theorem fl_X4_163 : z_FL RX4 163 0 8 := ⟨_, rfl, by decide, iw_X0, z_in (List.mem_of_getElem? (i := 90) (by decide +kernel)) rfl⟩
theorem fl_X0_57 : z_FL RX0 57 0 9 := ⟨_, rfl, by decide, iw_X0, z_in (List.mem_of_getElem? (i := 91) (by decide +kernel)) rfl⟩
theorem fl_X4_166 : z_FL RX4 166 0 9 := ⟨_, rfl, by decide, iw_X0, z_in (List.mem_of_getElem? (i := 92) (by decide +kernel)) rfl⟩
theorem fl_X0_72 : z_FL RX0 72 0 10 := ⟨_, rfl, by decide, iw_X0, z_in (List.mem_of_getElem? (i := 93) (by decide +kernel)) rfl⟩
theorem fl_X4_169 : z_FL RX4 169 0 10 := ⟨_, rfl, by decide, iw_X0, z_in (List.mem_of_getElem? (i := 94) (by decide +kernel)) rfl⟩
theorem fl_X0_25 : z_FL RX0 25 0 11 := ⟨_, rfl, by decide, iw_X0, z_in (List.mem_of_getElem? (i := 95) (by decide +kernel)) rfl⟩
theorem fl_X4_141 : z_FL RX4 141 0 11 := ⟨_, rfl, by decide, iw_X0, z_in (List.mem_of_getElem? (i := 96) (by decide +kernel)) rfl⟩
theorem fl_X1_15 : z_FL RX1 15 1 0 := ⟨_, rfl, by decide, iw_X1, z_in (List.mem_of_getElem? (i := 142) (by decide +kernel)) rfl⟩
theorem fl_X4_191 : z_FL RX4 191 1 0 := ⟨_, rfl, by decide, iw_X1, z_in (List.mem_of_getElem? (i := 143) (by decide +kernel)) rfl⟩
theorem fl_X1_18 : z_FL RX1 18 1 1 := ⟨_, rfl, by decide, iw_X1, z_in (List.mem_of_getElem? (i := 144) (by decide +kernel)) rfl⟩
theorem fl_X1_21 : z_FL RX1 21 1 2 := ⟨_, rfl, by decide, iw_X1, z_in (List.mem_of_getElem? (i := 145) (by decide +kernel)) rfl⟩
theorem fl_X1_24 : z_FL RX1 24 1 3 := ⟨_, rfl, by decide, iw_X1, z_in (List.mem_of_getElem? (i := 146) (by decide +kernel)) rfl⟩
theorem fl_X4_209 : z_FL RX4 209 1 3 := ⟨_, rfl, by decide, iw_X1, z_in (List.mem_of_getElem? (i := 147) (by decide +kernel)) rfl⟩
theorem fl_X1_31 : z_FL RX1 31 1 4 := ⟨_, rfl, by decide, iw_X1, z_in (List.mem_of_getElem? (i := 148) (by decide +kernel)) rfl⟩
theorem fl_X4_105 : z_FL RX4 105 1 4 := ⟨_, rfl, by decide, iw_X1, z_in (List.mem_of_getElem? (i := 149) (by decide +kernel)) rfl⟩
theorem fl_X1_38 : z_FL RX1 38 1 5 := ⟨_, rfl, by decide, iw_X1, z_in (List.mem_of_getElem? (i := 150) (by decide +kernel)) rfl⟩
theorem fl_X4_217 : z_FL RX4 217 1 5 := ⟨_, rfl, by decide, iw_X1, z_in (List.mem_of_getElem? (i := 151) (by decide +kernel)) rfl⟩
theorem fl_X1_41 : z_FL RX1 41 1 6 := ⟨_, rfl, by decide, iw_X1, z_in (List.mem_of_getElem? (i := 152) (by decide +kernel)) rfl⟩
theorem fl_X4_223 : z_FL RX4 223 1 6 := ⟨_, rfl, by decide, iw_X1, z_in (List.mem_of_getElem? (i := 153) (by decide +kernel)) rfl⟩
theorem fl_X1_44 : z_FL RX1 44 1 7 := ⟨_, rfl, by decide, iw_X1, z_in (List.mem_of_getElem? (i := 154) (by decide +kernel)) rfl⟩
theorem fl_X4_184 : z_FL RX4 184 1 7 := ⟨_, rfl, by decide, iw_X1, z_in (List.mem_of_getElem? (i := 155) (by decide +kernel)) rfl⟩
theorem fl_X1_9 : z_FL RX1 9 1 8 := ⟨_, rfl, by decide, iw_X1, z_in (List.mem_of_getElem? (i := 156) (by decide +kernel)) rfl⟩
theorem fl_X4_98 : z_FL RX4 98 1 8 := ⟨_, rfl, by decide, iw_X1, z_in (List.mem_of_getElem? (i := 157) (by decide +kernel)) rfl⟩
theorem fl_X4_12 : z_FL RX4 12 4 0 := ⟨_, rfl, by decide, iw_X4, z_in (List.mem_of_getElem? (i := 177) (by decide +kernel)) rfl⟩
theorem fl_X4_19 : z_FL RX4 19 4 1 := ⟨_, rfl, by decide, iw_X4, z_in (List.mem_of_getElem? (i := 178) (by decide +kernel)) rfl⟩
theorem fl_X4_25 : z_FL RX4 25 4 2 := ⟨_, rfl, by decide, iw_X4, z_in (List.mem_of_getElem? (i := 179) (by decide +kernel)) rfl⟩
theorem fl_X4_31 : z_FL RX4 31 4 3 := ⟨_, rfl, by decide, iw_X4, z_in (List.mem_of_getElem? (i := 180) (by decide +kernel)) rfl⟩
theorem fl_X4_44 : z_FL RX4 44 4 4 := ⟨_, rfl, by decide, iw_X4, z_in (List.mem_of_getElem? (i := 181) (by decide +kernel)) rfl⟩
theorem fl_X3_9 : z_FL RX3 9 3 0 := ⟨_, rfl, by decide, iw_X3, z_in (List.mem_of_getElem? (i := 314) (by decide +kernel)) rfl⟩
theorem fl_X3_25 : z_FL RX3 25 3 1 := ⟨_, rfl, by decide, iw_X3, z_in (List.mem_of_getElem? (i := 315) (by decide +kernel)) rfl⟩
theorem fl_X3_21 : z_FL RX3 21 3 2 := ⟨_, rfl, by decide, iw_X3, z_in (List.mem_of_getElem? (i := 316) (by decide +kernel)) rfl⟩
theorem fl_X3_28 : z_FL RX3 28 3 3 := ⟨_, rfl, by decide, iw_X3, z_in (List.mem_of_getElem? (i := 317) (by decide +kernel)) rfl⟩
theorem fl_X5_7 : z_FL RX5 7 5 0 := ⟨_, rfl, by decide, iw_X5, z_in (List.mem_of_getElem? (i := 501) (by decide +kernel)) rfl⟩
theorem fl_X5_58 : z_FL RX5 58 5 1 := ⟨_, rfl, by decide, iw_X5, z_in (List.mem_of_getElem? (i := 502) (by decide +kernel)) rfl⟩
theorem fl_X5_13 : z_FL RX5 13 5 2 := ⟨_, rfl, by decide, iw_X5, z_in (List.mem_of_getElem? (i := 503) (by decide +kernel)) rfl⟩
theorem fl_X5_17 : z_FL RX5 17 5 3 := ⟨_, rfl, by decide, iw_X5, z_in (List.mem_of_getElem? (i := 504) (by decide +kernel)) rfl⟩
theorem fl_X5_20 : z_FL RX5 20 5 4 := ⟨_, rfl, by decide, iw_X5, z_in (List.mem_of_getElem? (i := 505) (by decide +kernel)) rfl⟩
theorem fl_X5_23 : z_FL RX5 23 5 5 := ⟨_, rfl, by decide, iw_X5, z_in (List.mem_of_getElem? (i := 506) (by decide +kernel)) rfl⟩
theorem fl_X5_26 : z_FL RX5 26 5 6 := ⟨_, rfl, by decide, iw_X5, z_in (List.mem_of_getElem? (i := 507) (by decide +kernel)) rfl⟩
theorem fl_X5_29 : z_FL RX5 29 5 7 := ⟨_, rfl, by decide, iw_X5, z_in (List.mem_of_getElem? (i := 508) (by decide +kernel)) rfl⟩
theorem fl_X5_32 : z_FL RX5 32 5 8 := ⟨_, rfl, by decide, iw_X5, z_in (List.mem_of_getElem? (i := 509) (by decide +kernel)) rfl⟩
theorem fl_X5_110 : z_FL RX5 110 5 9 := ⟨_, rfl, by decide, iw_X5, z_in (List.mem_of_getElem? (i := 510) (by decide +kernel)) rfl⟩
theorem fl_X5_35 : z_FL RX5 35 5 10 := ⟨_, rfl, by decide, iw_X5, z_in (List.mem_of_getElem? (i := 511) (by decide +kernel)) rfl⟩
theorem fl_X5_38 : z_FL RX5 38 5 11 := ⟨_, rfl, by decide, iw_X5, z_in (List.mem_of_getElem? (i := 512) (by decide +kernel)) rfl⟩
theorem fl_X5_41 : z_FL RX5 41 5 12 := ⟨_, rfl, by decide, iw_X5, z_in (List.mem_of_getElem? (i := 513) (by decide +kernel)) rfl⟩
theorem fl_X5_44 : z_FL RX5 44 5 13 := ⟨_, rfl, by decide, iw_X5, z_in (List.mem_of_getElem? (i := 514) (by decide +kernel)) rfl⟩
theorem fl_X5_47 : z_FL RX5 47 5 14 := ⟨_, rfl, by decide, iw_X5, z_in (List.mem_of_getElem? (i := 515) (by decide +kernel)) rfl⟩
theorem fl_X5_50 : z_FL RX5 50 5 15 := ⟨_, rfl, by decide, iw_X5, z_in (List.mem_of_getElem? (i := 516) (by decide +kernel)) rfl⟩
theorem fl_X5_85 : z_FL RX5 85 5 16 := ⟨_, rfl, by decide, iw_X5, z_in (List.mem_of_getElem? (i := 517) (by decide +kernel)) rfl⟩
theorem fl_X5_88 : z_FL RX5 88 5 17 := ⟨_, rfl, by decide, iw_X5, z_in (List.mem_of_getElem? (i := 518) (by decide +kernel)) rfl⟩
theorem fl_X5_97 : z_FL RX5 97 5 18 := ⟨_, rfl, by decide, iw_X5, z_in (List.mem_of_getElem? (i := 519) (by decide +kernel)) rfl⟩
theorem fl_X5_94 : z_FL RX5 94 5 19 := ⟨_, rfl, by decide, iw_X5, z_in (List.mem_of_getElem? (i := 520) (by decide +kernel)) rfl⟩
set_option maxRecDepth 100000 in
theorem kw_X4_init : Cond.code yX4_init cX4_init 3 none ∈ z_W := z_in (List.mem_of_getElem? (i := 55) rfl) rfl
set_option maxRecDepth 100000 in
theorem kw_X2_init : Cond.code yX2_init cX2_init 1 none ∈ z_W := z_in (List.mem_of_getElem? (i := 63) rfl) rfl
set_option maxRecDepth 100000 in
theorem kw_X0_init : Cond.code yX0_init cX0_init 1 none ∈ z_W := z_in (List.mem_of_getElem? (i := 74) rfl) rfl
set_option maxRecDepth 100000 in
theorem kw_J9_min_7cf53 : Cond.code yJ9_min_7cf53 cJ9_min_7cf53 2 (some .int) ∈ z_W := z_in (List.mem_of_getElem? (i := 131) rfl) rfl
set_option maxRecDepth 100000 in
theorem kw_X1_init : Cond.code yX1_init cX1_init 4 none ∈ z_W := z_in (List.mem_of_getElem? (i := 134) rfl) rfl
set_option maxRecDepth 100000 in
theorem kw_X1_orderFor : Cond.code yX1_orderFor cX1_orderFor 2 (some .int) ∈ z_W := z_in (List.mem_of_getElem? (i := 138) rfl) rfl
set_option maxRecDepth 100000 in
theorem kw_X1_objectsIn : Cond.code yX1_objectsIn cX1_objectsIn 2 (some .int) ∈ z_W := z_in (List.mem_of_getElem? (i := 141) rfl) rfl
set_option maxRecDepth 100000 in
theorem kw_X4_usable : Cond.code yX4_usable cX4_usable 3 (some .boolean) ∈ z_W := z_in (List.mem_of_getElem? (i := 196) rfl) rfl
set_option maxRecDepth 100000 in
theorem kw_X0_tell : Cond.code yX0_tell cX0_tell 4 none ∈ z_W := z_in (List.mem_of_getElem? (i := 200) rfl) rfl
set_option maxRecDepth 100000 in
theorem kw_X4_start : Cond.code yX4_start cX4_start 1 (some .int) ∈ z_W := z_in (List.mem_of_getElem? (i := 204) rfl) rfl
set_option maxRecDepth 100000 in
theorem kw_X0_open : Cond.code yX0_open cX0_open 2 none ∈ z_W := z_in (List.mem_of_getElem? (i := 208) rfl) rfl
set_option maxRecDepth 100000 in
theorem kw_X0_join : Cond.code yX0_join cX0_join 6 none ∈ z_W := z_in (List.mem_of_getElem? (i := 212) rfl) rfl
set_option maxRecDepth 100000 in
theorem kw_X0_buddyOf : Cond.code yX0_buddyOf cX0_buddyOf 2 (some .int) ∈ z_W := z_in (List.mem_of_getElem? (i := 215) rfl) rfl
set_option maxRecDepth 100000 in
theorem kw_X0_isFree : Cond.code yX0_isFree cX0_isFree 3 (some .boolean) ∈ z_W := z_in (List.mem_of_getElem? (i := 219) rfl) rfl
set_option maxRecDepth 100000 in
theorem kw_X0_layFree : Cond.code yX0_layFree cX0_layFree 3 none ∈ z_W := z_in (List.mem_of_getElem? (i := 224) rfl) rfl
set_option maxRecDepth 100000 in
theorem kw_X4_pages : Cond.code yX4_pages cX4_pages 2 (some .int) ∈ z_W := z_in (List.mem_of_getElem? (i := 228) rfl) rfl
set_option maxRecDepth 100000 in
theorem kw_X4_isOrder : Cond.code yX4_isOrder cX4_isOrder 1 (some .boolean) ∈ z_W := z_in (List.mem_of_getElem? (i := 231) rfl) rfl
set_option maxRecDepth 100000 in
theorem kw_X0_claim : Cond.code yX0_claim cX0_claim 5 (some .int) ∈ z_W := z_in (List.mem_of_getElem? (i := 235) rfl) rfl
set_option maxRecDepth 100000 in
theorem kw_X0_leastFree : Cond.code yX0_leastFree cX0_leastFree 4 (some .int) ∈ z_W := z_in (List.mem_of_getElem? (i := 239) rfl) rfl
set_option maxRecDepth 100000 in
theorem kw_X0_halve : Cond.code yX0_halve cX0_halve 5 none ∈ z_W := z_in (List.mem_of_getElem? (i := 243) rfl) rfl
set_option maxRecDepth 100000 in
theorem kw_J9_max_7cf53 : Cond.code yJ9_max_7cf53 cJ9_max_7cf53 2 (some .int) ∈ z_W := z_in (List.mem_of_getElem? (i := 246) rfl) rfl
set_option maxRecDepth 100000 in
theorem kw_X4_freePages : Cond.code yX4_freePages cX4_freePages 4 (some .int) ∈ z_W := z_in (List.mem_of_getElem? (i := 250) rfl) rfl
set_option maxRecDepth 100000 in
theorem kw_X4_wrongWithPage : Cond.code yX4_wrongWithPage cX4_wrongWithPage 3 (some .int) ∈ z_W := z_in (List.mem_of_getElem? (i := 254) rfl) rfl
set_option maxRecDepth 100000 in
theorem kw_X0_useFrom : Cond.code yX0_useFrom cX0_useFrom 2 (some .int) ∈ z_W := z_in (List.mem_of_getElem? (i := 258) rfl) rfl
set_option maxRecDepth 100000 in
theorem kw_X4_isPage : Cond.code yX4_isPage cX4_isPage 1 (some .boolean) ∈ z_W := z_in (List.mem_of_getElem? (i := 261) rfl) rfl
set_option maxRecDepth 100000 in
theorem kw_X0_orderFrom : Cond.code yX0_orderFrom cX0_orderFrom 2 (some .int) ∈ z_W := z_in (List.mem_of_getElem? (i := 265) rfl) rfl
set_option maxRecDepth 100000 in
theorem kw_X0_release : Cond.code yX0_release cX0_release 3 none ∈ z_W := z_in (List.mem_of_getElem? (i := 269) rfl) rfl
set_option maxRecDepth 100000 in
theorem kw_X4_cache : Cond.code yX4_cache cX4_cache 4 (some .int) ∈ z_W := z_in (List.mem_of_getElem? (i := 274) rfl) rfl
set_option maxRecDepth 100000 in
theorem kw_X4_isAlignment : Cond.code yX4_isAlignment cX4_isAlignment 1 (some .boolean) ∈ z_W := z_in (List.mem_of_getElem? (i := 277) rfl) rfl
set_option maxRecDepth 100000 in
theorem kw_J6_bitCount_0f7a4 : Cond.code yJ6_bitCount_0f7a4 cJ6_bitCount_0f7a4 1 (some .int) ∈ z_W := z_in (List.mem_of_getElem? (i := 280) rfl) rfl
set_option maxRecDepth 100000 in
theorem kw_X4_take : Cond.code yX4_take cX4_take 3 (some .int) ∈ z_W := z_in (List.mem_of_getElem? (i := 287) rfl) rfl
set_option maxRecDepth 100000 in
theorem kw_X4_cacheOf : Cond.code yX4_cacheOf cX4_cacheOf 2 (some (.object "PageSlabs$Cache")) ∈ z_W := z_in (List.mem_of_getElem? (i := 291) rfl) rfl
set_option maxRecDepth 100000 in
theorem kw_X4_takeObject : Cond.code yX4_takeObject cX4_takeObject 5 (some .int) ∈ z_W := z_in (List.mem_of_getElem? (i := 295) rfl) rfl
set_option maxRecDepth 100000 in
theorem kw_X4_partlyLiveSlab : Cond.code yX4_partlyLiveSlab cX4_partlyLiveSlab 4 (some .int) ∈ z_W := z_in (List.mem_of_getElem? (i := 299) rfl) rfl
set_option maxRecDepth 100000 in
theorem kw_X3_isPartlyLive : Cond.code yX3_isPartlyLive cX3_isPartlyLive 1 (some .boolean) ∈ z_W := z_in (List.mem_of_getElem? (i := 303) rfl) rfl
set_option maxRecDepth 100000 in
theorem kw_X4_newSlab : Cond.code yX4_newSlab cX4_newSlab 4 (some .int) ∈ z_W := z_in (List.mem_of_getElem? (i := 307) rfl) rfl
set_option maxRecDepth 100000 in
theorem kw_X3_init : Cond.code yX3_init cX3_init 1 none ∈ z_W := z_in (List.mem_of_getElem? (i := 312) rfl) rfl
set_option maxRecDepth 100000 in
theorem kw_X3_layOut : Cond.code yX3_layOut cX3_layOut 3 none ∈ z_W := z_in (List.mem_of_getElem? (i := 330) rfl) rfl
set_option maxRecDepth 100000 in
theorem kw_X4_slabAt : Cond.code yX4_slabAt cX4_slabAt 2 (some (.object "PageSlabs$Slab")) ∈ z_W := z_in (List.mem_of_getElem? (i := 335) rfl) rfl
set_option maxRecDepth 100000 in
theorem kw_X3_takeFront : Cond.code yX3_takeFront cX3_takeFront 2 (some .int) ∈ z_W := z_in (List.mem_of_getElem? (i := 339) rfl) rfl
set_option maxRecDepth 100000 in
theorem kw_X4_give : Cond.code yX4_give cX4_give 5 (some .int) ∈ z_W := z_in (List.mem_of_getElem? (i := 343) rfl) rfl
set_option maxRecDepth 100000 in
theorem kw_X4_wrongWithObject : Cond.code yX4_wrongWithObject cX4_wrongWithObject 6 (some .int) ∈ z_W := z_in (List.mem_of_getElem? (i := 347) rfl) rfl
set_option maxRecDepth 100000 in
theorem kw_X4_isAddress : Cond.code yX4_isAddress cX4_isAddress 1 (some .boolean) ∈ z_W := z_in (List.mem_of_getElem? (i := 350) rfl) rfl
set_option maxRecDepth 100000 in
theorem kw_X0_firstOf : Cond.code yX0_firstOf cX0_firstOf 4 (some .int) ∈ z_W := z_in (List.mem_of_getElem? (i := 354) rfl) rfl
set_option maxRecDepth 100000 in
theorem kw_X1_indexAt : Cond.code yX1_indexAt cX1_indexAt 3 (some .int) ∈ z_W := z_in (List.mem_of_getElem? (i := 358) rfl) rfl
set_option maxRecDepth 100000 in
theorem kw_X3_isLive : Cond.code yX3_isLive cX3_isLive 2 (some .boolean) ∈ z_W := z_in (List.mem_of_getElem? (i := 362) rfl) rfl
set_option maxRecDepth 100000 in
theorem kw_X4_giveObject : Cond.code yX4_giveObject cX4_giveObject 6 (some .int) ∈ z_W := z_in (List.mem_of_getElem? (i := 366) rfl) rfl
set_option maxRecDepth 100000 in
theorem kw_X3_putFront : Cond.code yX3_putFront cX3_putFront 2 none ∈ z_W := z_in (List.mem_of_getElem? (i := 370) rfl) rfl
set_option maxRecDepth 100000 in
theorem kw_X3_liveCount : Cond.code yX3_liveCount cX3_liveCount 1 (some .int) ∈ z_W := z_in (List.mem_of_getElem? (i := 375) rfl) rfl
set_option maxRecDepth 100000 in
theorem kw_X4_dropSlab : Cond.code yX4_dropSlab cX4_dropSlab 3 none ∈ z_W := z_in (List.mem_of_getElem? (i := 379) rfl) rfl
set_option maxRecDepth 100000 in
theorem kw_X4_shrink : Cond.code yX4_shrink cX4_shrink 4 (some .int) ∈ z_W := z_in (List.mem_of_getElem? (i := 383) rfl) rfl
set_option maxRecDepth 100000 in
theorem kw_X4_alloc : Cond.code yX4_alloc cX4_alloc 2 (some .int) ∈ z_W := z_in (List.mem_of_getElem? (i := 387) rfl) rfl
set_option maxRecDepth 100000 in
theorem kw_X4_isBySize : Cond.code yX4_isBySize cX4_isBySize 1 (some .boolean) ∈ z_W := z_in (List.mem_of_getElem? (i := 390) rfl) rfl
set_option maxRecDepth 100000 in
theorem kw_X4_kindFor : Cond.code yX4_kindFor cX4_kindFor 2 (some .int) ∈ z_W := z_in (List.mem_of_getElem? (i := 393) rfl) rfl
set_option maxRecDepth 100000 in
theorem kw_X4_bytesOfKind : Cond.code yX4_bytesOfKind cX4_bytesOfKind 1 (some .int) ∈ z_W := z_in (List.mem_of_getElem? (i := 396) rfl) rfl
set_option maxRecDepth 100000 in
theorem kw_X4_takeKind : Cond.code yX4_takeKind cX4_takeKind 3 (some .int) ∈ z_W := z_in (List.mem_of_getElem? (i := 400) rfl) rfl
set_option maxRecDepth 100000 in
theorem kw_X4_free : Cond.code yX4_free cX4_free 4 (some .int) ∈ z_W := z_in (List.mem_of_getElem? (i := 404) rfl) rfl
set_option maxRecDepth 100000 in
theorem kw_X4_wrongBySize : Cond.code yX4_wrongBySize cX4_wrongBySize 5 (some .int) ∈ z_W := z_in (List.mem_of_getElem? (i := 408) rfl) rfl
set_option maxRecDepth 100000 in
theorem kw_X4_kindAt : Cond.code yX4_kindAt cX4_kindAt 4 (some .int) ∈ z_W := z_in (List.mem_of_getElem? (i := 412) rfl) rfl
set_option maxRecDepth 100000 in
theorem kw_X4_giveBySize : Cond.code yX4_giveBySize cX4_giveBySize 4 none ∈ z_W := z_in (List.mem_of_getElem? (i := 416) rfl) rfl
set_option maxRecDepth 100000 in
theorem kw_X4_resize : Cond.code yX4_resize cX4_resize 7 (some .int) ∈ z_W := z_in (List.mem_of_getElem? (i := 420) rfl) rfl
set_option maxRecDepth 100000 in
theorem kw_X2_copy : Cond.code yX2_copy cX2_copy 6 none ∈ z_W := z_in (List.mem_of_getElem? (i := 424) rfl) rfl
set_option maxRecDepth 100000 in
theorem kw_X2_get : Cond.code yX2_get cX2_get 2 (some .int) ∈ z_W := z_in (List.mem_of_getElem? (i := 431) rfl) rfl
set_option maxRecDepth 100000 in
theorem kw_X2_shiftOf : Cond.code yX2_shiftOf cX2_shiftOf 1 (some .int) ∈ z_W := z_in (List.mem_of_getElem? (i := 434) rfl) rfl
set_option maxRecDepth 100000 in
theorem kw_X2_put : Cond.code yX2_put cX2_put 6 none ∈ z_W := z_in (List.mem_of_getElem? (i := 438) rfl) rfl
set_option maxRecDepth 100000 in
theorem kw_X4_size : Cond.code yX4_size cX4_size 3 (some .int) ∈ z_W := z_in (List.mem_of_getElem? (i := 444) rfl) rfl
set_option maxRecDepth 100000 in
theorem kw_X4_read : Cond.code yX4_read cX4_read 2 (some .int) ∈ z_W := z_in (List.mem_of_getElem? (i := 448) rfl) rfl
set_option maxRecDepth 100000 in
theorem kw_X4_write : Cond.code yX4_write cX4_write 4 (some .int) ∈ z_W := z_in (List.mem_of_getElem? (i := 453) rfl) rfl
set_option maxRecDepth 100000 in
theorem kw_X4_arm : Cond.code yX4_arm cX4_arm 2 (some .boolean) ∈ z_W := z_in (List.mem_of_getElem? (i := 458) rfl) rfl
set_option maxRecDepth 100000 in
theorem kw_X4_ofPage : Cond.code yX4_ofPage cX4_ofPage 3 (some .int) ∈ z_W := z_in (List.mem_of_getElem? (i := 462) rfl) rfl
set_option maxRecDepth 100000 in
theorem kw_X4_block : Cond.code yX4_block cX4_block 2 (some .int) ∈ z_W := z_in (List.mem_of_getElem? (i := 466) rfl) rfl
set_option maxRecDepth 100000 in
theorem kw_X4_order : Cond.code yX4_order cX4_order 2 (some .int) ∈ z_W := z_in (List.mem_of_getElem? (i := 470) rfl) rfl
set_option maxRecDepth 100000 in
theorem kw_X4_freeBlocks : Cond.code yX4_freeBlocks cX4_freeBlocks 2 (some .int) ∈ z_W := z_in (List.mem_of_getElem? (i := 474) rfl) rfl
set_option maxRecDepth 100000 in
theorem kw_X4_ofCache : Cond.code yX4_ofCache cX4_ofCache 4 (some .int) ∈ z_W := z_in (List.mem_of_getElem? (i := 478) rfl) rfl
set_option maxRecDepth 100000 in
theorem kw_X1_figure : Cond.code yX1_figure cX1_figure 2 (some .int) ∈ z_W := z_in (List.mem_of_getElem? (i := 482) rfl) rfl
set_option maxRecDepth 100000 in
theorem kw_X4_count : Cond.code yX4_count cX4_count 2 (some .int) ∈ z_W := z_in (List.mem_of_getElem? (i := 486) rfl) rfl
set_option maxRecDepth 100000 in
theorem kw_X4_liveObjects : Cond.code yX4_liveObjects cX4_liveObjects 4 (some .int) ∈ z_W := z_in (List.mem_of_getElem? (i := 490) rfl) rfl
set_option maxRecDepth 100000 in
theorem kw_X5_init : Cond.code yX5_init cX5_init 4 none ∈ z_W := z_in (List.mem_of_getElem? (i := 495) rfl) rfl
set_option maxRecDepth 100000 in
theorem kw_X5_addCache : Cond.code yX5_addCache cX5_addCache 4 (some .int) ∈ z_W := z_in (List.mem_of_getElem? (i := 500) rfl) rfl
set_option maxRecDepth 100000 in
theorem kw_X5_usable : Cond.code yX5_usable cX5_usable 4 (some .boolean) ∈ z_W := z_in (List.mem_of_getElem? (i := 565) rfl) rfl
set_option maxRecDepth 100000 in
theorem kw_X5_in : Cond.code yX5_in cX5_in 3 (some .boolean) ∈ z_W := z_in (List.mem_of_getElem? (i := 568) rfl) rfl
set_option maxRecDepth 100000 in
theorem kw_X5_start : Cond.code yX5_start cX5_start 3 (some .int) ∈ z_W := z_in (List.mem_of_getElem? (i := 572) rfl) rfl
set_option maxRecDepth 100000 in
theorem kw_X5_areUsable : Cond.code yX5_areUsable cX5_areUsable 5 (some .boolean) ∈ z_W := z_in (List.mem_of_getElem? (i := 576) rfl) rfl
set_option maxRecDepth 100000 in
theorem kw_X5_makeBlock : Cond.code yX5_makeBlock cX5_makeBlock 5 none ∈ z_W := z_in (List.mem_of_getElem? (i := 580) rfl) rfl
set_option maxRecDepth 100000 in
theorem kw_X5_usablePages : Cond.code yX5_usablePages cX5_usablePages 3 (some .int) ∈ z_W := z_in (List.mem_of_getElem? (i := 584) rfl) rfl
set_option maxRecDepth 100000 in
theorem kw_X5_pages : Cond.code yX5_pages cX5_pages 2 (some .int) ∈ z_W := z_in (List.mem_of_getElem? (i := 588) rfl) rfl
set_option maxRecDepth 100000 in
theorem kw_X5_takeBlock : Cond.code yX5_takeBlock cX5_takeBlock 6 (some .int) ∈ z_W := z_in (List.mem_of_getElem? (i := 592) rfl) rfl
set_option maxRecDepth 100000 in
theorem kw_X5_isFree : Cond.code yX5_isFree cX5_isFree 2 (some .boolean) ∈ z_W := z_in (List.mem_of_getElem? (i := 596) rfl) rfl
set_option maxRecDepth 100000 in
theorem kw_X5_isFirst : Cond.code yX5_isFirst cX5_isFirst 2 (some .boolean) ∈ z_W := z_in (List.mem_of_getElem? (i := 600) rfl) rfl
set_option maxRecDepth 100000 in
theorem kw_X5_freePageCount : Cond.code yX5_freePageCount cX5_freePageCount 3 (some .int) ∈ z_W := z_in (List.mem_of_getElem? (i := 604) rfl) rfl
set_option maxRecDepth 100000 in
theorem kw_X5_freePages : Cond.code yX5_freePages cX5_freePages 3 (some .int) ∈ z_W := z_in (List.mem_of_getElem? (i := 608) rfl) rfl
set_option maxRecDepth 100000 in
theorem kw_X5_faultOfPage : Cond.code yX5_faultOfPage cX5_faultOfPage 2 (some .int) ∈ z_W := z_in (List.mem_of_getElem? (i := 612) rfl) rfl
set_option maxRecDepth 100000 in
theorem kw_X5_giveBlock : Cond.code yX5_giveBlock cX5_giveBlock 7 (some .int) ∈ z_W := z_in (List.mem_of_getElem? (i := 616) rfl) rfl
set_option maxRecDepth 100000 in
theorem kw_X5_cache : Cond.code yX5_cache cX5_cache 4 (some .int) ∈ z_W := z_in (List.mem_of_getElem? (i := 620) rfl) rfl
set_option maxRecDepth 100000 in
theorem kw_X5_take : Cond.code yX5_take cX5_take 4 (some .int) ∈ z_W := z_in (List.mem_of_getElem? (i := 624) rfl) rfl
set_option maxRecDepth 100000 in
theorem kw_X5_isCache : Cond.code yX5_isCache cX5_isCache 2 (some .boolean) ∈ z_W := z_in (List.mem_of_getElem? (i := 628) rfl) rfl
set_option maxRecDepth 100000 in
theorem kw_X5_isSlab : Cond.code yX5_isSlab cX5_isSlab 3 (some .boolean) ∈ z_W := z_in (List.mem_of_getElem? (i := 632) rfl) rfl
set_option maxRecDepth 100000 in
theorem kw_X5_liveOf : Cond.code yX5_liveOf cX5_liveOf 2 (some .int) ∈ z_W := z_in (List.mem_of_getElem? (i := 636) rfl) rfl
set_option maxRecDepth 100000 in
theorem kw_X5_objectsOf : Cond.code yX5_objectsOf cX5_objectsOf 2 (some .int) ∈ z_W := z_in (List.mem_of_getElem? (i := 640) rfl) rfl
set_option maxRecDepth 100000 in
theorem kw_X5_newSlab : Cond.code yX5_newSlab cX5_newSlab 5 (some .int) ∈ z_W := z_in (List.mem_of_getElem? (i := 644) rfl) rfl
set_option maxRecDepth 100000 in
theorem kw_X5_give : Cond.code yX5_give cX5_give 5 (some .int) ∈ z_W := z_in (List.mem_of_getElem? (i := 648) rfl) rfl
set_option maxRecDepth 100000 in
theorem kw_X5_slabAt : Cond.code yX5_slabAt cX5_slabAt 4 (some .int) ∈ z_W := z_in (List.mem_of_getElem? (i := 652) rfl) rfl
set_option maxRecDepth 100000 in
theorem kw_X5_faultOfObject : Cond.code yX5_faultOfObject cX5_faultOfObject 7 (some .int) ∈ z_W := z_in (List.mem_of_getElem? (i := 656) rfl) rfl
set_option maxRecDepth 100000 in
theorem kw_X5_giveObject : Cond.code yX5_giveObject cX5_giveObject 6 (some .int) ∈ z_W := z_in (List.mem_of_getElem? (i := 660) rfl) rfl
set_option maxRecDepth 100000 in
theorem kw_X5_shrink : Cond.code yX5_shrink cX5_shrink 3 (some .int) ∈ z_W := z_in (List.mem_of_getElem? (i := 664) rfl) rfl
set_option maxRecDepth 100000 in
theorem kw_X5_alloc : Cond.code yX5_alloc cX5_alloc 4 (some .int) ∈ z_W := z_in (List.mem_of_getElem? (i := 668) rfl) rfl
set_option maxRecDepth 100000 in
theorem kw_X5_classOf : Cond.code yX5_classOf cX5_classOf 3 (some .int) ∈ z_W := z_in (List.mem_of_getElem? (i := 671) rfl) rfl
set_option maxRecDepth 100000 in
theorem kw_X5_free : Cond.code yX5_free cX5_free 4 (some .int) ∈ z_W := z_in (List.mem_of_getElem? (i := 676) rfl) rfl
set_option maxRecDepth 100000 in
theorem kw_X5_classAt : Cond.code yX5_classAt cX5_classAt 4 (some .int) ∈ z_W := z_in (List.mem_of_getElem? (i := 680) rfl) rfl
set_option maxRecDepth 100000 in
theorem kw_X5_release : Cond.code yX5_release cX5_release 3 (some .int) ∈ z_W := z_in (List.mem_of_getElem? (i := 684) rfl) rfl
set_option maxRecDepth 100000 in
theorem kw_X5_bytesOf : Cond.code yX5_bytesOf cX5_bytesOf 1 (some .int) ∈ z_W := z_in (List.mem_of_getElem? (i := 687) rfl) rfl
set_option maxRecDepth 100000 in
theorem kw_X5_size : Cond.code yX5_size cX5_size 3 (some .int) ∈ z_W := z_in (List.mem_of_getElem? (i := 691) rfl) rfl
set_option maxRecDepth 100000 in
theorem kw_X5_resize : Cond.code yX5_resize cX5_resize 8 (some .int) ∈ z_W := z_in (List.mem_of_getElem? (i := 695) rfl) rfl
set_option maxRecDepth 100000 in
theorem kw_X5_read : Cond.code yX5_read cX5_read 2 (some .int) ∈ z_W := z_in (List.mem_of_getElem? (i := 700) rfl) rfl
set_option maxRecDepth 100000 in
theorem kw_X5_isAddress : Cond.code yX5_isAddress cX5_isAddress 1 (some .boolean) ∈ z_W := z_in (List.mem_of_getElem? (i := 703) rfl) rfl
set_option maxRecDepth 100000 in
theorem kw_X5_write : Cond.code yX5_write cX5_write 4 (some .int) ∈ z_W := z_in (List.mem_of_getElem? (i := 707) rfl) rfl
set_option maxRecDepth 100000 in
theorem kw_X5_arm : Cond.code yX5_arm cX5_arm 2 (some .boolean) ∈ z_W := z_in (List.mem_of_getElem? (i := 711) rfl) rfl
set_option maxRecDepth 100000 in
theorem kw_X5_ofPage : Cond.code yX5_ofPage cX5_ofPage 3 (some .int) ∈ z_W := z_in (List.mem_of_getElem? (i := 715) rfl) rfl
set_option maxRecDepth 100000 in
theorem kw_X5_block : Cond.code yX5_block cX5_block 2 (some .int) ∈ z_W := z_in (List.mem_of_getElem? (i := 719) rfl) rfl
set_option maxRecDepth 100000 in
theorem kw_X5_order : Cond.code yX5_order cX5_order 3 (some .int) ∈ z_W := z_in (List.mem_of_getElem? (i := 723) rfl) rfl
set_option maxRecDepth 100000 in
theorem kw_X5_freeBlocks : Cond.code yX5_freeBlocks cX5_freeBlocks 4 (some .int) ∈ z_W := z_in (List.mem_of_getElem? (i := 728) rfl) rfl
set_option maxRecDepth 100000 in
theorem kw_X5_ofCache : Cond.code yX5_ofCache cX5_ofCache 3 (some .int) ∈ z_W := z_in (List.mem_of_getElem? (i := 732) rfl) rfl
set_option maxRecDepth 100000 in
theorem kw_X5_slabsOf : Cond.code yX5_slabsOf cX5_slabsOf 4 (some .int) ∈ z_W := z_in (List.mem_of_getElem? (i := 736) rfl) rfl
set_option maxRecDepth 100000 in
theorem kw_X5_liveIn : Cond.code yX5_liveIn cX5_liveIn 4 (some .int) ∈ z_W := z_in (List.mem_of_getElem? (i := 740) rfl) rfl
set_option maxRecDepth 100000 in
theorem kw_X5_count : Cond.code yX5_count cX5_count 4 (some .int) ∈ z_W := z_in (List.mem_of_getElem? (i := 744) rfl) rfl
theorem lb_X4_init : z_LB yX4_init 0 := ⟨z_in (List.mem_of_getElem? (i := 42) (by decide +kernel)) rfl, by decide +kernel, by decide +kernel, by decide +kernel⟩
theorem lb_X2_init : z_LB yX2_init 0 := ⟨z_in (List.mem_of_getElem? (i := 43) (by decide +kernel)) rfl, by decide +kernel, by decide +kernel, by decide +kernel⟩
theorem lb_X0_init : z_LB yX0_init 0 := ⟨z_in (List.mem_of_getElem? (i := 44) (by decide +kernel)) rfl, by decide +kernel, by decide +kernel, by decide +kernel⟩
theorem lb_J9_min_7cf53 : z_LB yJ9_min_7cf53 2 := ⟨z_in (List.mem_of_getElem? (i := 46) (by decide +kernel)) rfl, by decide +kernel, by decide +kernel, by decide +kernel⟩
theorem lb_X1_init : z_LB yX1_init 3 := ⟨z_in (List.mem_of_getElem? (i := 45) (by decide +kernel)) rfl, by decide +kernel, by decide +kernel, by decide +kernel⟩
theorem lb_X1_orderFor : z_LB yX1_orderFor 1 := ⟨z_in (List.mem_of_getElem? (i := 45) (by decide +kernel)) rfl, by decide +kernel, by decide +kernel, by decide +kernel⟩
theorem lb_X1_objectsIn : z_LB yX1_objectsIn 2 := ⟨z_in (List.mem_of_getElem? (i := 45) (by decide +kernel)) rfl, by decide +kernel, by decide +kernel, by decide +kernel⟩
theorem lb_X4_usable : z_LB yX4_usable 2 := ⟨z_in (List.mem_of_getElem? (i := 42) (by decide +kernel)) rfl, by decide +kernel, by decide +kernel, by decide +kernel⟩
theorem lb_X0_tell : z_LB yX0_tell 2 := ⟨z_in (List.mem_of_getElem? (i := 44) (by decide +kernel)) rfl, by decide +kernel, by decide +kernel, by decide +kernel⟩
theorem lb_X4_start : z_LB yX4_start 0 := ⟨z_in (List.mem_of_getElem? (i := 42) (by decide +kernel)) rfl, by decide +kernel, by decide +kernel, by decide +kernel⟩
theorem lb_X0_open : z_LB yX0_open 0 := ⟨z_in (List.mem_of_getElem? (i := 44) (by decide +kernel)) rfl, by decide +kernel, by decide +kernel, by decide +kernel⟩
theorem lb_X0_join : z_LB yX0_join 2 := ⟨z_in (List.mem_of_getElem? (i := 44) (by decide +kernel)) rfl, by decide +kernel, by decide +kernel, by decide +kernel⟩
theorem lb_X0_buddyOf : z_LB yX0_buddyOf 2 := ⟨z_in (List.mem_of_getElem? (i := 44) (by decide +kernel)) rfl, by decide +kernel, by decide +kernel, by decide +kernel⟩
theorem lb_X0_isFree : z_LB yX0_isFree 2 := ⟨z_in (List.mem_of_getElem? (i := 44) (by decide +kernel)) rfl, by decide +kernel, by decide +kernel, by decide +kernel⟩
theorem lb_X0_layFree : z_LB yX0_layFree 2 := ⟨z_in (List.mem_of_getElem? (i := 44) (by decide +kernel)) rfl, by decide +kernel, by decide +kernel, by decide +kernel⟩
theorem lb_X4_pages : z_LB yX4_pages 1 := ⟨z_in (List.mem_of_getElem? (i := 42) (by decide +kernel)) rfl, by decide +kernel, by decide +kernel, by decide +kernel⟩
theorem lb_X4_isOrder : z_LB yX4_isOrder 1 := ⟨z_in (List.mem_of_getElem? (i := 42) (by decide +kernel)) rfl, by decide +kernel, by decide +kernel, by decide +kernel⟩
theorem lb_X0_claim : z_LB yX0_claim 2 := ⟨z_in (List.mem_of_getElem? (i := 44) (by decide +kernel)) rfl, by decide +kernel, by decide +kernel, by decide +kernel⟩
theorem lb_X0_leastFree : z_LB yX0_leastFree 1 := ⟨z_in (List.mem_of_getElem? (i := 44) (by decide +kernel)) rfl, by decide +kernel, by decide +kernel, by decide +kernel⟩
theorem lb_X0_halve : z_LB yX0_halve 2 := ⟨z_in (List.mem_of_getElem? (i := 44) (by decide +kernel)) rfl, by decide +kernel, by decide +kernel, by decide +kernel⟩
theorem lb_J9_max_7cf53 : z_LB yJ9_max_7cf53 2 := ⟨z_in (List.mem_of_getElem? (i := 46) (by decide +kernel)) rfl, by decide +kernel, by decide +kernel, by decide +kernel⟩
theorem lb_X4_freePages : z_LB yX4_freePages 1 := ⟨z_in (List.mem_of_getElem? (i := 42) (by decide +kernel)) rfl, by decide +kernel, by decide +kernel, by decide +kernel⟩
theorem lb_X4_wrongWithPage : z_LB yX4_wrongWithPage 1 := ⟨z_in (List.mem_of_getElem? (i := 42) (by decide +kernel)) rfl, by decide +kernel, by decide +kernel, by decide +kernel⟩
theorem lb_X0_useFrom : z_LB yX0_useFrom 1 := ⟨z_in (List.mem_of_getElem? (i := 44) (by decide +kernel)) rfl, by decide +kernel, by decide +kernel, by decide +kernel⟩
theorem lb_X4_isPage : z_LB yX4_isPage 1 := ⟨z_in (List.mem_of_getElem? (i := 42) (by decide +kernel)) rfl, by decide +kernel, by decide +kernel, by decide +kernel⟩
theorem lb_X0_orderFrom : z_LB yX0_orderFrom 1 := ⟨z_in (List.mem_of_getElem? (i := 44) (by decide +kernel)) rfl, by decide +kernel, by decide +kernel, by decide +kernel⟩
theorem lb_X0_release : z_LB yX0_release 1 := ⟨z_in (List.mem_of_getElem? (i := 44) (by decide +kernel)) rfl, by decide +kernel, by decide +kernel, by decide +kernel⟩
theorem lb_X4_cache : z_LB yX4_cache 2 := ⟨z_in (List.mem_of_getElem? (i := 42) (by decide +kernel)) rfl, by decide +kernel, by decide +kernel, by decide +kernel⟩
theorem lb_X4_isAlignment : z_LB yX4_isAlignment 1 := ⟨z_in (List.mem_of_getElem? (i := 42) (by decide +kernel)) rfl, by decide +kernel, by decide +kernel, by decide +kernel⟩
theorem lb_J6_bitCount_0f7a4 : z_LB yJ6_bitCount_0f7a4 1 := ⟨z_in (List.mem_of_getElem? (i := 48) (by decide +kernel)) rfl, by decide +kernel, by decide +kernel, by decide +kernel⟩
theorem lb_X4_take : z_LB yX4_take 1 := ⟨z_in (List.mem_of_getElem? (i := 42) (by decide +kernel)) rfl, by decide +kernel, by decide +kernel, by decide +kernel⟩
theorem lb_X4_cacheOf : z_LB yX4_cacheOf 1 := ⟨z_in (List.mem_of_getElem? (i := 42) (by decide +kernel)) rfl, by decide +kernel, by decide +kernel, by decide +kernel⟩
theorem lb_X4_takeObject : z_LB yX4_takeObject 1 := ⟨z_in (List.mem_of_getElem? (i := 42) (by decide +kernel)) rfl, by decide +kernel, by decide +kernel, by decide +kernel⟩
theorem lb_X4_partlyLiveSlab : z_LB yX4_partlyLiveSlab 1 := ⟨z_in (List.mem_of_getElem? (i := 42) (by decide +kernel)) rfl, by decide +kernel, by decide +kernel, by decide +kernel⟩
theorem lb_X3_isPartlyLive : z_LB yX3_isPartlyLive 0 := ⟨z_in (List.mem_of_getElem? (i := 49) (by decide +kernel)) rfl, by decide +kernel, by decide +kernel, by decide +kernel⟩
theorem lb_X4_newSlab : z_LB yX4_newSlab 1 := ⟨z_in (List.mem_of_getElem? (i := 42) (by decide +kernel)) rfl, by decide +kernel, by decide +kernel, by decide +kernel⟩
theorem lb_X3_init : z_LB yX3_init 0 := ⟨z_in (List.mem_of_getElem? (i := 49) (by decide +kernel)) rfl, by decide +kernel, by decide +kernel, by decide +kernel⟩
theorem lb_X3_layOut : z_LB yX3_layOut 1 := ⟨z_in (List.mem_of_getElem? (i := 49) (by decide +kernel)) rfl, by decide +kernel, by decide +kernel, by decide +kernel⟩
theorem lb_X4_slabAt : z_LB yX4_slabAt 1 := ⟨z_in (List.mem_of_getElem? (i := 42) (by decide +kernel)) rfl, by decide +kernel, by decide +kernel, by decide +kernel⟩
theorem lb_X3_takeFront : z_LB yX3_takeFront 0 := ⟨z_in (List.mem_of_getElem? (i := 49) (by decide +kernel)) rfl, by decide +kernel, by decide +kernel, by decide +kernel⟩
theorem lb_X4_give : z_LB yX4_give 2 := ⟨z_in (List.mem_of_getElem? (i := 42) (by decide +kernel)) rfl, by decide +kernel, by decide +kernel, by decide +kernel⟩
theorem lb_X4_wrongWithObject : z_LB yX4_wrongWithObject 2 := ⟨z_in (List.mem_of_getElem? (i := 42) (by decide +kernel)) rfl, by decide +kernel, by decide +kernel, by decide +kernel⟩
theorem lb_X4_isAddress : z_LB yX4_isAddress 1 := ⟨z_in (List.mem_of_getElem? (i := 42) (by decide +kernel)) rfl, by decide +kernel, by decide +kernel, by decide +kernel⟩
theorem lb_X0_firstOf : z_LB yX0_firstOf 1 := ⟨z_in (List.mem_of_getElem? (i := 44) (by decide +kernel)) rfl, by decide +kernel, by decide +kernel, by decide +kernel⟩
theorem lb_X1_indexAt : z_LB yX1_indexAt 1 := ⟨z_in (List.mem_of_getElem? (i := 45) (by decide +kernel)) rfl, by decide +kernel, by decide +kernel, by decide +kernel⟩
theorem lb_X3_isLive : z_LB yX3_isLive 1 := ⟨z_in (List.mem_of_getElem? (i := 49) (by decide +kernel)) rfl, by decide +kernel, by decide +kernel, by decide +kernel⟩
theorem lb_X4_giveObject : z_LB yX4_giveObject 2 := ⟨z_in (List.mem_of_getElem? (i := 42) (by decide +kernel)) rfl, by decide +kernel, by decide +kernel, by decide +kernel⟩
theorem lb_X3_putFront : z_LB yX3_putFront 1 := ⟨z_in (List.mem_of_getElem? (i := 49) (by decide +kernel)) rfl, by decide +kernel, by decide +kernel, by decide +kernel⟩
theorem lb_X3_liveCount : z_LB yX3_liveCount 0 := ⟨z_in (List.mem_of_getElem? (i := 49) (by decide +kernel)) rfl, by decide +kernel, by decide +kernel, by decide +kernel⟩
theorem lb_X4_dropSlab : z_LB yX4_dropSlab 2 := ⟨z_in (List.mem_of_getElem? (i := 42) (by decide +kernel)) rfl, by decide +kernel, by decide +kernel, by decide +kernel⟩
theorem lb_X4_shrink : z_LB yX4_shrink 1 := ⟨z_in (List.mem_of_getElem? (i := 42) (by decide +kernel)) rfl, by decide +kernel, by decide +kernel, by decide +kernel⟩
theorem lb_X4_alloc : z_LB yX4_alloc 1 := ⟨z_in (List.mem_of_getElem? (i := 42) (by decide +kernel)) rfl, by decide +kernel, by decide +kernel, by decide +kernel⟩
theorem lb_X4_isBySize : z_LB yX4_isBySize 1 := ⟨z_in (List.mem_of_getElem? (i := 42) (by decide +kernel)) rfl, by decide +kernel, by decide +kernel, by decide +kernel⟩
theorem lb_X4_kindFor : z_LB yX4_kindFor 1 := ⟨z_in (List.mem_of_getElem? (i := 42) (by decide +kernel)) rfl, by decide +kernel, by decide +kernel, by decide +kernel⟩
theorem lb_X4_bytesOfKind : z_LB yX4_bytesOfKind 1 := ⟨z_in (List.mem_of_getElem? (i := 42) (by decide +kernel)) rfl, by decide +kernel, by decide +kernel, by decide +kernel⟩
theorem lb_X4_takeKind : z_LB yX4_takeKind 1 := ⟨z_in (List.mem_of_getElem? (i := 42) (by decide +kernel)) rfl, by decide +kernel, by decide +kernel, by decide +kernel⟩
theorem lb_X4_free : z_LB yX4_free 1 := ⟨z_in (List.mem_of_getElem? (i := 42) (by decide +kernel)) rfl, by decide +kernel, by decide +kernel, by decide +kernel⟩
theorem lb_X4_wrongBySize : z_LB yX4_wrongBySize 1 := ⟨z_in (List.mem_of_getElem? (i := 42) (by decide +kernel)) rfl, by decide +kernel, by decide +kernel, by decide +kernel⟩
theorem lb_X4_kindAt : z_LB yX4_kindAt 1 := ⟨z_in (List.mem_of_getElem? (i := 42) (by decide +kernel)) rfl, by decide +kernel, by decide +kernel, by decide +kernel⟩
theorem lb_X4_giveBySize : z_LB yX4_giveBySize 1 := ⟨z_in (List.mem_of_getElem? (i := 42) (by decide +kernel)) rfl, by decide +kernel, by decide +kernel, by decide +kernel⟩
theorem lb_X4_resize : z_LB yX4_resize 2 := ⟨z_in (List.mem_of_getElem? (i := 42) (by decide +kernel)) rfl, by decide +kernel, by decide +kernel, by decide +kernel⟩
theorem lb_X2_copy : z_LB yX2_copy 3 := ⟨z_in (List.mem_of_getElem? (i := 43) (by decide +kernel)) rfl, by decide +kernel, by decide +kernel, by decide +kernel⟩
theorem lb_X2_get : z_LB yX2_get 1 := ⟨z_in (List.mem_of_getElem? (i := 43) (by decide +kernel)) rfl, by decide +kernel, by decide +kernel, by decide +kernel⟩
theorem lb_X2_shiftOf : z_LB yX2_shiftOf 1 := ⟨z_in (List.mem_of_getElem? (i := 43) (by decide +kernel)) rfl, by decide +kernel, by decide +kernel, by decide +kernel⟩
theorem lb_X2_put : z_LB yX2_put 2 := ⟨z_in (List.mem_of_getElem? (i := 43) (by decide +kernel)) rfl, by decide +kernel, by decide +kernel, by decide +kernel⟩
theorem lb_X4_size : z_LB yX4_size 1 := ⟨z_in (List.mem_of_getElem? (i := 42) (by decide +kernel)) rfl, by decide +kernel, by decide +kernel, by decide +kernel⟩
theorem lb_X4_read : z_LB yX4_read 1 := ⟨z_in (List.mem_of_getElem? (i := 42) (by decide +kernel)) rfl, by decide +kernel, by decide +kernel, by decide +kernel⟩
theorem lb_X4_write : z_LB yX4_write 2 := ⟨z_in (List.mem_of_getElem? (i := 42) (by decide +kernel)) rfl, by decide +kernel, by decide +kernel, by decide +kernel⟩
theorem lb_X4_arm : z_LB yX4_arm 1 := ⟨z_in (List.mem_of_getElem? (i := 42) (by decide +kernel)) rfl, by decide +kernel, by decide +kernel, by decide +kernel⟩
theorem lb_X4_ofPage : z_LB yX4_ofPage 1 := ⟨z_in (List.mem_of_getElem? (i := 42) (by decide +kernel)) rfl, by decide +kernel, by decide +kernel, by decide +kernel⟩
theorem lb_X4_block : z_LB yX4_block 1 := ⟨z_in (List.mem_of_getElem? (i := 42) (by decide +kernel)) rfl, by decide +kernel, by decide +kernel, by decide +kernel⟩
theorem lb_X4_order : z_LB yX4_order 1 := ⟨z_in (List.mem_of_getElem? (i := 42) (by decide +kernel)) rfl, by decide +kernel, by decide +kernel, by decide +kernel⟩
theorem lb_X4_freeBlocks : z_LB yX4_freeBlocks 1 := ⟨z_in (List.mem_of_getElem? (i := 42) (by decide +kernel)) rfl, by decide +kernel, by decide +kernel, by decide +kernel⟩
theorem lb_X4_ofCache : z_LB yX4_ofCache 2 := ⟨z_in (List.mem_of_getElem? (i := 42) (by decide +kernel)) rfl, by decide +kernel, by decide +kernel, by decide +kernel⟩
theorem lb_X1_figure : z_LB yX1_figure 1 := ⟨z_in (List.mem_of_getElem? (i := 45) (by decide +kernel)) rfl, by decide +kernel, by decide +kernel, by decide +kernel⟩
theorem lb_X4_count : z_LB yX4_count 1 := ⟨z_in (List.mem_of_getElem? (i := 42) (by decide +kernel)) rfl, by decide +kernel, by decide +kernel, by decide +kernel⟩
theorem lb_X4_liveObjects : z_LB yX4_liveObjects 0 := ⟨z_in (List.mem_of_getElem? (i := 42) (by decide +kernel)) rfl, by decide +kernel, by decide +kernel, by decide +kernel⟩
theorem lb_X5_init : z_LB yX5_init 0 := ⟨z_in (List.mem_of_getElem? (i := 47) (by decide +kernel)) rfl, by decide +kernel, by decide +kernel, by decide +kernel⟩
theorem lb_X5_addCache : z_LB yX5_addCache 2 := ⟨z_in (List.mem_of_getElem? (i := 47) (by decide +kernel)) rfl, by decide +kernel, by decide +kernel, by decide +kernel⟩
theorem lb_X5_usable : z_LB yX5_usable 2 := ⟨z_in (List.mem_of_getElem? (i := 47) (by decide +kernel)) rfl, by decide +kernel, by decide +kernel, by decide +kernel⟩
theorem lb_X5_in : z_LB yX5_in 3 := ⟨z_in (List.mem_of_getElem? (i := 47) (by decide +kernel)) rfl, by decide +kernel, by decide +kernel, by decide +kernel⟩
theorem lb_X5_start : z_LB yX5_start 0 := ⟨z_in (List.mem_of_getElem? (i := 47) (by decide +kernel)) rfl, by decide +kernel, by decide +kernel, by decide +kernel⟩
theorem lb_X5_areUsable : z_LB yX5_areUsable 2 := ⟨z_in (List.mem_of_getElem? (i := 47) (by decide +kernel)) rfl, by decide +kernel, by decide +kernel, by decide +kernel⟩
theorem lb_X5_makeBlock : z_LB yX5_makeBlock 3 := ⟨z_in (List.mem_of_getElem? (i := 47) (by decide +kernel)) rfl, by decide +kernel, by decide +kernel, by decide +kernel⟩
theorem lb_X5_usablePages : z_LB yX5_usablePages 0 := ⟨z_in (List.mem_of_getElem? (i := 47) (by decide +kernel)) rfl, by decide +kernel, by decide +kernel, by decide +kernel⟩
theorem lb_X5_pages : z_LB yX5_pages 1 := ⟨z_in (List.mem_of_getElem? (i := 47) (by decide +kernel)) rfl, by decide +kernel, by decide +kernel, by decide +kernel⟩
theorem lb_X5_takeBlock : z_LB yX5_takeBlock 1 := ⟨z_in (List.mem_of_getElem? (i := 47) (by decide +kernel)) rfl, by decide +kernel, by decide +kernel, by decide +kernel⟩
theorem lb_X5_isFree : z_LB yX5_isFree 1 := ⟨z_in (List.mem_of_getElem? (i := 47) (by decide +kernel)) rfl, by decide +kernel, by decide +kernel, by decide +kernel⟩
theorem lb_X5_isFirst : z_LB yX5_isFirst 1 := ⟨z_in (List.mem_of_getElem? (i := 47) (by decide +kernel)) rfl, by decide +kernel, by decide +kernel, by decide +kernel⟩
theorem lb_X5_freePageCount : z_LB yX5_freePageCount 0 := ⟨z_in (List.mem_of_getElem? (i := 47) (by decide +kernel)) rfl, by decide +kernel, by decide +kernel, by decide +kernel⟩
theorem lb_X5_freePages : z_LB yX5_freePages 1 := ⟨z_in (List.mem_of_getElem? (i := 47) (by decide +kernel)) rfl, by decide +kernel, by decide +kernel, by decide +kernel⟩
theorem lb_X5_faultOfPage : z_LB yX5_faultOfPage 1 := ⟨z_in (List.mem_of_getElem? (i := 47) (by decide +kernel)) rfl, by decide +kernel, by decide +kernel, by decide +kernel⟩
theorem lb_X5_giveBlock : z_LB yX5_giveBlock 1 := ⟨z_in (List.mem_of_getElem? (i := 47) (by decide +kernel)) rfl, by decide +kernel, by decide +kernel, by decide +kernel⟩
theorem lb_X5_cache : z_LB yX5_cache 2 := ⟨z_in (List.mem_of_getElem? (i := 47) (by decide +kernel)) rfl, by decide +kernel, by decide +kernel, by decide +kernel⟩
theorem lb_X5_take : z_LB yX5_take 1 := ⟨z_in (List.mem_of_getElem? (i := 47) (by decide +kernel)) rfl, by decide +kernel, by decide +kernel, by decide +kernel⟩
theorem lb_X5_isCache : z_LB yX5_isCache 1 := ⟨z_in (List.mem_of_getElem? (i := 47) (by decide +kernel)) rfl, by decide +kernel, by decide +kernel, by decide +kernel⟩
theorem lb_X5_isSlab : z_LB yX5_isSlab 2 := ⟨z_in (List.mem_of_getElem? (i := 47) (by decide +kernel)) rfl, by decide +kernel, by decide +kernel, by decide +kernel⟩
theorem lb_X5_liveOf : z_LB yX5_liveOf 1 := ⟨z_in (List.mem_of_getElem? (i := 47) (by decide +kernel)) rfl, by decide +kernel, by decide +kernel, by decide +kernel⟩
theorem lb_X5_objectsOf : z_LB yX5_objectsOf 1 := ⟨z_in (List.mem_of_getElem? (i := 47) (by decide +kernel)) rfl, by decide +kernel, by decide +kernel, by decide +kernel⟩
theorem lb_X5_newSlab : z_LB yX5_newSlab 1 := ⟨z_in (List.mem_of_getElem? (i := 47) (by decide +kernel)) rfl, by decide +kernel, by decide +kernel, by decide +kernel⟩
theorem lb_X5_give : z_LB yX5_give 2 := ⟨z_in (List.mem_of_getElem? (i := 47) (by decide +kernel)) rfl, by decide +kernel, by decide +kernel, by decide +kernel⟩
theorem lb_X5_slabAt : z_LB yX5_slabAt 1 := ⟨z_in (List.mem_of_getElem? (i := 47) (by decide +kernel)) rfl, by decide +kernel, by decide +kernel, by decide +kernel⟩
theorem lb_X5_faultOfObject : z_LB yX5_faultOfObject 2 := ⟨z_in (List.mem_of_getElem? (i := 47) (by decide +kernel)) rfl, by decide +kernel, by decide +kernel, by decide +kernel⟩
theorem lb_X5_giveObject : z_LB yX5_giveObject 2 := ⟨z_in (List.mem_of_getElem? (i := 47) (by decide +kernel)) rfl, by decide +kernel, by decide +kernel, by decide +kernel⟩
theorem lb_X5_shrink : z_LB yX5_shrink 1 := ⟨z_in (List.mem_of_getElem? (i := 47) (by decide +kernel)) rfl, by decide +kernel, by decide +kernel, by decide +kernel⟩
theorem lb_X5_alloc : z_LB yX5_alloc 1 := ⟨z_in (List.mem_of_getElem? (i := 47) (by decide +kernel)) rfl, by decide +kernel, by decide +kernel, by decide +kernel⟩
theorem lb_X5_classOf : z_LB yX5_classOf 1 := ⟨z_in (List.mem_of_getElem? (i := 47) (by decide +kernel)) rfl, by decide +kernel, by decide +kernel, by decide +kernel⟩
theorem lb_X5_free : z_LB yX5_free 1 := ⟨z_in (List.mem_of_getElem? (i := 47) (by decide +kernel)) rfl, by decide +kernel, by decide +kernel, by decide +kernel⟩
theorem lb_X5_classAt : z_LB yX5_classAt 1 := ⟨z_in (List.mem_of_getElem? (i := 47) (by decide +kernel)) rfl, by decide +kernel, by decide +kernel, by decide +kernel⟩
theorem lb_X5_release : z_LB yX5_release 2 := ⟨z_in (List.mem_of_getElem? (i := 47) (by decide +kernel)) rfl, by decide +kernel, by decide +kernel, by decide +kernel⟩
theorem lb_X5_bytesOf : z_LB yX5_bytesOf 1 := ⟨z_in (List.mem_of_getElem? (i := 47) (by decide +kernel)) rfl, by decide +kernel, by decide +kernel, by decide +kernel⟩
theorem lb_X5_size : z_LB yX5_size 1 := ⟨z_in (List.mem_of_getElem? (i := 47) (by decide +kernel)) rfl, by decide +kernel, by decide +kernel, by decide +kernel⟩
theorem lb_X5_resize : z_LB yX5_resize 2 := ⟨z_in (List.mem_of_getElem? (i := 47) (by decide +kernel)) rfl, by decide +kernel, by decide +kernel, by decide +kernel⟩
theorem lb_X5_read : z_LB yX5_read 1 := ⟨z_in (List.mem_of_getElem? (i := 47) (by decide +kernel)) rfl, by decide +kernel, by decide +kernel, by decide +kernel⟩
theorem lb_X5_isAddress : z_LB yX5_isAddress 1 := ⟨z_in (List.mem_of_getElem? (i := 47) (by decide +kernel)) rfl, by decide +kernel, by decide +kernel, by decide +kernel⟩
theorem lb_X5_write : z_LB yX5_write 2 := ⟨z_in (List.mem_of_getElem? (i := 47) (by decide +kernel)) rfl, by decide +kernel, by decide +kernel, by decide +kernel⟩
theorem lb_X5_arm : z_LB yX5_arm 1 := ⟨z_in (List.mem_of_getElem? (i := 47) (by decide +kernel)) rfl, by decide +kernel, by decide +kernel, by decide +kernel⟩
theorem lb_X5_ofPage : z_LB yX5_ofPage 1 := ⟨z_in (List.mem_of_getElem? (i := 47) (by decide +kernel)) rfl, by decide +kernel, by decide +kernel, by decide +kernel⟩
theorem lb_X5_block : z_LB yX5_block 1 := ⟨z_in (List.mem_of_getElem? (i := 47) (by decide +kernel)) rfl, by decide +kernel, by decide +kernel, by decide +kernel⟩
theorem lb_X5_order : z_LB yX5_order 1 := ⟨z_in (List.mem_of_getElem? (i := 47) (by decide +kernel)) rfl, by decide +kernel, by decide +kernel, by decide +kernel⟩
theorem lb_X5_freeBlocks : z_LB yX5_freeBlocks 1 := ⟨z_in (List.mem_of_getElem? (i := 47) (by decide +kernel)) rfl, by decide +kernel, by decide +kernel, by decide +kernel⟩
theorem lb_X5_ofCache : z_LB yX5_ofCache 2 := ⟨z_in (List.mem_of_getElem? (i := 47) (by decide +kernel)) rfl, by decide +kernel, by decide +kernel, by decide +kernel⟩
theorem lb_X5_slabsOf : z_LB yX5_slabsOf 1 := ⟨z_in (List.mem_of_getElem? (i := 47) (by decide +kernel)) rfl, by decide +kernel, by decide +kernel, by decide +kernel⟩
theorem lb_X5_liveIn : z_LB yX5_liveIn 1 := ⟨z_in (List.mem_of_getElem? (i := 47) (by decide +kernel)) rfl, by decide +kernel, by decide +kernel, by decide +kernel⟩
theorem lb_X5_count : z_LB yX5_count 1 := ⟨z_in (List.mem_of_getElem? (i := 47) (by decide +kernel)) rfl, by decide +kernel, by decide +kernel, by decide +kernel⟩
theorem ml_L_9 : z_LI RL 9 yX4_init 0 := ⟨z_in (List.mem_of_getElem? (i := 53) (by decide +kernel)) rfl, z_in (List.mem_of_getElem? (i := 54) (by decide +kernel)) rfl, rfl, lb_X4_init⟩
theorem ml_X4_3 : Cond.methodLink RX4 3 Lib.objectInit ∈ z_W := z_in (List.mem_of_getElem? (i := 56) (by decide +kernel)) rfl
theorem ml_X2_3 : Cond.methodLink RX2 3 Lib.objectInit ∈ z_W := z_in (List.mem_of_getElem? (i := 64) (by decide +kernel)) rfl
theorem ml_X0_3 : Cond.methodLink RX0 3 Lib.objectInit ∈ z_W := z_in (List.mem_of_getElem? (i := 75) (by decide +kernel)) rfl
theorem ml_X4_35 : Cond.methodLink RX4 35 Lib.Math.min.name ∈ z_W := z_in (List.mem_of_getElem? (i := 129) (by decide +kernel)) rfl
theorem ml_X4_41 : z_LI RX4 41 yX1_init 3 := ⟨z_in (List.mem_of_getElem? (i := 132) (by decide +kernel)) rfl, z_in (List.mem_of_getElem? (i := 133) (by decide +kernel)) rfl, rfl, lb_X1_init⟩
theorem ml_X1_3 : Cond.methodLink RX1 3 Lib.objectInit ∈ z_W := z_in (List.mem_of_getElem? (i := 135) (by decide +kernel)) rfl
theorem ml_X1_27 : z_LS RX1 27 yX1_orderFor 1 := ⟨z_in (List.mem_of_getElem? (i := 136) (by decide +kernel)) rfl, z_in (List.mem_of_getElem? (i := 137) (by decide +kernel)) rfl, lb_X1_orderFor⟩
theorem ml_X1_34 : z_LS RX1 34 yX1_objectsIn 2 := ⟨z_in (List.mem_of_getElem? (i := 139) (by decide +kernel)) rfl, z_in (List.mem_of_getElem? (i := 140) (by decide +kernel)) rfl, lb_X1_objectsIn⟩
theorem ml_L_13 : z_LV RL 13 yX4_usable 2 := ⟨z_in (List.mem_of_getElem? (i := 193) (by decide +kernel)) rfl, z_in (List.mem_of_getElem? (i := 194) (by decide +kernel)) rfl, z_in (List.mem_of_getElem? (i := 195) (by decide +kernel)) rfl, lb_X4_usable⟩
theorem ml_X4_52 : z_LV RX4 52 yX0_tell 2 := ⟨z_in (List.mem_of_getElem? (i := 197) (by decide +kernel)) rfl, z_in (List.mem_of_getElem? (i := 198) (by decide +kernel)) rfl, z_in (List.mem_of_getElem? (i := 199) (by decide +kernel)) rfl, lb_X0_tell⟩
theorem ml_L_18 : z_LV RL 18 yX4_start 0 := ⟨z_in (List.mem_of_getElem? (i := 201) (by decide +kernel)) rfl, z_in (List.mem_of_getElem? (i := 202) (by decide +kernel)) rfl, z_in (List.mem_of_getElem? (i := 203) (by decide +kernel)) rfl, lb_X4_start⟩
theorem ml_X4_56 : z_LV RX4 56 yX0_open 0 := ⟨z_in (List.mem_of_getElem? (i := 205) (by decide +kernel)) rfl, z_in (List.mem_of_getElem? (i := 206) (by decide +kernel)) rfl, z_in (List.mem_of_getElem? (i := 207) (by decide +kernel)) rfl, lb_X0_open⟩
theorem ml_X0_36 : z_LV RX0 36 yX0_join 2 := ⟨z_in (List.mem_of_getElem? (i := 209) (by decide +kernel)) rfl, z_in (List.mem_of_getElem? (i := 211) (by decide +kernel)) rfl, z_in (List.mem_of_getElem? (i := 0) (by decide +kernel)) rfl, lb_X0_join⟩
theorem ml_X0_82 : z_LS RX0 82 yX0_buddyOf 2 := ⟨z_in (List.mem_of_getElem? (i := 213) (by decide +kernel)) rfl, z_in (List.mem_of_getElem? (i := 214) (by decide +kernel)) rfl, lb_X0_buddyOf⟩
theorem ml_X0_75 : z_LV RX0 75 yX0_isFree 2 := ⟨z_in (List.mem_of_getElem? (i := 216) (by decide +kernel)) rfl, z_in (List.mem_of_getElem? (i := 218) (by decide +kernel)) rfl, z_in (List.mem_of_getElem? (i := 1) (by decide +kernel)) rfl, lb_X0_isFree⟩
theorem ml_X0_85 : Cond.methodLink RX0 85 Lib.Math.min.name ∈ z_W := z_in (List.mem_of_getElem? (i := 220) (by decide +kernel)) rfl
theorem ml_X0_79 : z_LV RX0 79 yX0_layFree 2 := ⟨z_in (List.mem_of_getElem? (i := 221) (by decide +kernel)) rfl, z_in (List.mem_of_getElem? (i := 223) (by decide +kernel)) rfl, z_in (List.mem_of_getElem? (i := 2) (by decide +kernel)) rfl, lb_X0_layFree⟩
theorem ml_L_23 : z_LV RL 23 yX4_pages 1 := ⟨z_in (List.mem_of_getElem? (i := 225) (by decide +kernel)) rfl, z_in (List.mem_of_getElem? (i := 226) (by decide +kernel)) rfl, z_in (List.mem_of_getElem? (i := 227) (by decide +kernel)) rfl, lb_X4_pages⟩
theorem ml_X4_62 : z_LS RX4 62 yX4_isOrder 1 := ⟨z_in (List.mem_of_getElem? (i := 229) (by decide +kernel)) rfl, z_in (List.mem_of_getElem? (i := 230) (by decide +kernel)) rfl, lb_X4_isOrder⟩
theorem ml_X4_66 : z_LV RX4 66 yX0_claim 2 := ⟨z_in (List.mem_of_getElem? (i := 232) (by decide +kernel)) rfl, z_in (List.mem_of_getElem? (i := 233) (by decide +kernel)) rfl, z_in (List.mem_of_getElem? (i := 234) (by decide +kernel)) rfl, lb_X0_claim⟩
theorem ml_X0_47 : z_LV RX0 47 yX0_leastFree 1 := ⟨z_in (List.mem_of_getElem? (i := 236) (by decide +kernel)) rfl, z_in (List.mem_of_getElem? (i := 238) (by decide +kernel)) rfl, z_in (List.mem_of_getElem? (i := 3) (by decide +kernel)) rfl, lb_X0_leastFree⟩
theorem ml_X0_54 : z_LV RX0 54 yX0_halve 2 := ⟨z_in (List.mem_of_getElem? (i := 240) (by decide +kernel)) rfl, z_in (List.mem_of_getElem? (i := 242) (by decide +kernel)) rfl, z_in (List.mem_of_getElem? (i := 4) (by decide +kernel)) rfl, lb_X0_halve⟩
theorem ml_X0_63 : Cond.methodLink RX0 63 Lib.Math.max.name ∈ z_W := z_in (List.mem_of_getElem? (i := 244) (by decide +kernel)) rfl
theorem ml_L_28 : z_LV RL 28 yX4_freePages 1 := ⟨z_in (List.mem_of_getElem? (i := 247) (by decide +kernel)) rfl, z_in (List.mem_of_getElem? (i := 248) (by decide +kernel)) rfl, z_in (List.mem_of_getElem? (i := 249) (by decide +kernel)) rfl, lb_X4_freePages⟩
theorem ml_X4_69 : z_LV RX4 69 yX4_wrongWithPage 1 := ⟨z_in (List.mem_of_getElem? (i := 251) (by decide +kernel)) rfl, z_in (List.mem_of_getElem? (i := 253) (by decide +kernel)) rfl, z_in (List.mem_of_getElem? (i := 5) (by decide +kernel)) rfl, lb_X4_wrongWithPage⟩
theorem ml_X4_150 : z_LV RX4 150 yX0_useFrom 1 := ⟨z_in (List.mem_of_getElem? (i := 255) (by decide +kernel)) rfl, z_in (List.mem_of_getElem? (i := 256) (by decide +kernel)) rfl, z_in (List.mem_of_getElem? (i := 257) (by decide +kernel)) rfl, lb_X0_useFrom⟩
theorem ml_X4_73 : z_LV RX4 73 yX0_orderFrom 1 := ⟨z_in (List.mem_of_getElem? (i := 262) (by decide +kernel)) rfl, z_in (List.mem_of_getElem? (i := 263) (by decide +kernel)) rfl, z_in (List.mem_of_getElem? (i := 264) (by decide +kernel)) rfl, lb_X0_orderFrom⟩
theorem ml_X4_76 : z_LV RX4 76 yX0_release 1 := ⟨z_in (List.mem_of_getElem? (i := 266) (by decide +kernel)) rfl, z_in (List.mem_of_getElem? (i := 267) (by decide +kernel)) rfl, z_in (List.mem_of_getElem? (i := 268) (by decide +kernel)) rfl, lb_X0_release⟩
theorem ml_X0_69 : z_LV RX0 69 yX0_orderFrom 1 := ⟨z_in (List.mem_of_getElem? (i := 270) (by decide +kernel)) rfl, z_in (List.mem_of_getElem? (i := 263) (by decide +kernel)) rfl, z_in (List.mem_of_getElem? (i := 264) (by decide +kernel)) rfl, lb_X0_orderFrom⟩
theorem ml_L_32 : z_LV RL 32 yX4_cache 2 := ⟨z_in (List.mem_of_getElem? (i := 271) (by decide +kernel)) rfl, z_in (List.mem_of_getElem? (i := 272) (by decide +kernel)) rfl, z_in (List.mem_of_getElem? (i := 273) (by decide +kernel)) rfl, lb_X4_cache⟩
theorem ml_X4_80 : z_LS RX4 80 yX4_isAlignment 1 := ⟨z_in (List.mem_of_getElem? (i := 275) (by decide +kernel)) rfl, z_in (List.mem_of_getElem? (i := 276) (by decide +kernel)) rfl, lb_X4_isAlignment⟩
theorem ml_X4_179 : z_LS RX4 179 yJ6_bitCount_0f7a4 1 := ⟨z_in (List.mem_of_getElem? (i := 278) (by decide +kernel)) rfl, z_in (List.mem_of_getElem? (i := 279) (by decide +kernel)) rfl, lb_J6_bitCount_0f7a4⟩
theorem ml_L_37 : z_LV RL 37 yX4_take 1 := ⟨z_in (List.mem_of_getElem? (i := 284) (by decide +kernel)) rfl, z_in (List.mem_of_getElem? (i := 285) (by decide +kernel)) rfl, z_in (List.mem_of_getElem? (i := 286) (by decide +kernel)) rfl, lb_X4_take⟩
theorem ml_X4_83 : z_LV RX4 83 yX4_cacheOf 1 := ⟨z_in (List.mem_of_getElem? (i := 288) (by decide +kernel)) rfl, z_in (List.mem_of_getElem? (i := 290) (by decide +kernel)) rfl, z_in (List.mem_of_getElem? (i := 6) (by decide +kernel)) rfl, lb_X4_cacheOf⟩
theorem ml_X4_87 : z_LV RX4 87 yX4_takeObject 1 := ⟨z_in (List.mem_of_getElem? (i := 292) (by decide +kernel)) rfl, z_in (List.mem_of_getElem? (i := 294) (by decide +kernel)) rfl, z_in (List.mem_of_getElem? (i := 7) (by decide +kernel)) rfl, lb_X4_takeObject⟩
theorem ml_X4_200 : z_LV RX4 200 yX4_partlyLiveSlab 1 := ⟨z_in (List.mem_of_getElem? (i := 296) (by decide +kernel)) rfl, z_in (List.mem_of_getElem? (i := 298) (by decide +kernel)) rfl, z_in (List.mem_of_getElem? (i := 8) (by decide +kernel)) rfl, lb_X4_partlyLiveSlab⟩
theorem ml_X4_212 : z_LV RX4 212 yX3_isPartlyLive 0 := ⟨z_in (List.mem_of_getElem? (i := 300) (by decide +kernel)) rfl, z_in (List.mem_of_getElem? (i := 301) (by decide +kernel)) rfl, z_in (List.mem_of_getElem? (i := 302) (by decide +kernel)) rfl, lb_X3_isPartlyLive⟩
theorem ml_X4_203 : z_LV RX4 203 yX4_newSlab 1 := ⟨z_in (List.mem_of_getElem? (i := 304) (by decide +kernel)) rfl, z_in (List.mem_of_getElem? (i := 306) (by decide +kernel)) rfl, z_in (List.mem_of_getElem? (i := 9) (by decide +kernel)) rfl, lb_X4_newSlab⟩
theorem ml_X4_144 : z_LS RX4 144 yX4_isPage 1 := ⟨z_in (List.mem_of_getElem? (i := 308) (by decide +kernel)) rfl, z_in (List.mem_of_getElem? (i := 260) (by decide +kernel)) rfl, lb_X4_isPage⟩
theorem ml_X3_3 : Cond.methodLink RX3 3 Lib.objectInit ∈ z_W := z_in (List.mem_of_getElem? (i := 313) (by decide +kernel)) rfl
theorem ml_X4_220 : z_LV RX4 220 yX3_layOut 1 := ⟨z_in (List.mem_of_getElem? (i := 327) (by decide +kernel)) rfl, z_in (List.mem_of_getElem? (i := 328) (by decide +kernel)) rfl, z_in (List.mem_of_getElem? (i := 329) (by decide +kernel)) rfl, lb_X3_layOut⟩
theorem ml_X3_15 : Cond.methodLink RX3 15 Lib.Math.min.name ∈ z_W := z_in (List.mem_of_getElem? (i := 331) (by decide +kernel)) rfl
theorem ml_X4_187 : z_LV RX4 187 yX4_slabAt 1 := ⟨z_in (List.mem_of_getElem? (i := 332) (by decide +kernel)) rfl, z_in (List.mem_of_getElem? (i := 334) (by decide +kernel)) rfl, z_in (List.mem_of_getElem? (i := 10) (by decide +kernel)) rfl, lb_X4_slabAt⟩
theorem ml_X4_206 : z_LV RX4 206 yX3_takeFront 0 := ⟨z_in (List.mem_of_getElem? (i := 336) (by decide +kernel)) rfl, z_in (List.mem_of_getElem? (i := 337) (by decide +kernel)) rfl, z_in (List.mem_of_getElem? (i := 338) (by decide +kernel)) rfl, lb_X3_takeFront⟩
theorem ml_L_41 : z_LV RL 41 yX4_give 2 := ⟨z_in (List.mem_of_getElem? (i := 340) (by decide +kernel)) rfl, z_in (List.mem_of_getElem? (i := 341) (by decide +kernel)) rfl, z_in (List.mem_of_getElem? (i := 342) (by decide +kernel)) rfl, lb_X4_give⟩
theorem ml_X4_91 : z_LV RX4 91 yX4_wrongWithObject 2 := ⟨z_in (List.mem_of_getElem? (i := 344) (by decide +kernel)) rfl, z_in (List.mem_of_getElem? (i := 346) (by decide +kernel)) rfl, z_in (List.mem_of_getElem? (i := 11) (by decide +kernel)) rfl, lb_X4_wrongWithObject⟩
theorem ml_X4_132 : z_LS RX4 132 yX4_isAddress 1 := ⟨z_in (List.mem_of_getElem? (i := 348) (by decide +kernel)) rfl, z_in (List.mem_of_getElem? (i := 349) (by decide +kernel)) rfl, lb_X4_isAddress⟩
theorem ml_X4_147 : z_LV RX4 147 yX0_firstOf 1 := ⟨z_in (List.mem_of_getElem? (i := 351) (by decide +kernel)) rfl, z_in (List.mem_of_getElem? (i := 352) (by decide +kernel)) rfl, z_in (List.mem_of_getElem? (i := 353) (by decide +kernel)) rfl, lb_X0_firstOf⟩
theorem ml_X4_194 : z_LV RX4 194 yX1_indexAt 1 := ⟨z_in (List.mem_of_getElem? (i := 355) (by decide +kernel)) rfl, z_in (List.mem_of_getElem? (i := 356) (by decide +kernel)) rfl, z_in (List.mem_of_getElem? (i := 357) (by decide +kernel)) rfl, lb_X1_indexAt⟩
theorem ml_X4_197 : z_LV RX4 197 yX3_isLive 1 := ⟨z_in (List.mem_of_getElem? (i := 359) (by decide +kernel)) rfl, z_in (List.mem_of_getElem? (i := 360) (by decide +kernel)) rfl, z_in (List.mem_of_getElem? (i := 361) (by decide +kernel)) rfl, lb_X3_isLive⟩
theorem ml_X4_95 : z_LV RX4 95 yX4_giveObject 2 := ⟨z_in (List.mem_of_getElem? (i := 363) (by decide +kernel)) rfl, z_in (List.mem_of_getElem? (i := 365) (by decide +kernel)) rfl, z_in (List.mem_of_getElem? (i := 12) (by decide +kernel)) rfl, lb_X4_giveObject⟩
theorem ml_X4_226 : z_LV RX4 226 yX3_putFront 1 := ⟨z_in (List.mem_of_getElem? (i := 367) (by decide +kernel)) rfl, z_in (List.mem_of_getElem? (i := 368) (by decide +kernel)) rfl, z_in (List.mem_of_getElem? (i := 369) (by decide +kernel)) rfl, lb_X3_putFront⟩
theorem ml_X4_229 : z_LV RX4 229 yX3_liveCount 0 := ⟨z_in (List.mem_of_getElem? (i := 372) (by decide +kernel)) rfl, z_in (List.mem_of_getElem? (i := 373) (by decide +kernel)) rfl, z_in (List.mem_of_getElem? (i := 374) (by decide +kernel)) rfl, lb_X3_liveCount⟩
theorem ml_X4_101 : z_LV RX4 101 yX4_dropSlab 2 := ⟨z_in (List.mem_of_getElem? (i := 376) (by decide +kernel)) rfl, z_in (List.mem_of_getElem? (i := 378) (by decide +kernel)) rfl, z_in (List.mem_of_getElem? (i := 13) (by decide +kernel)) rfl, lb_X4_dropSlab⟩
theorem ml_L_45 : z_LV RL 45 yX4_shrink 1 := ⟨z_in (List.mem_of_getElem? (i := 380) (by decide +kernel)) rfl, z_in (List.mem_of_getElem? (i := 381) (by decide +kernel)) rfl, z_in (List.mem_of_getElem? (i := 382) (by decide +kernel)) rfl, lb_X4_shrink⟩
theorem ml_L_49 : z_LV RL 49 yX4_alloc 1 := ⟨z_in (List.mem_of_getElem? (i := 384) (by decide +kernel)) rfl, z_in (List.mem_of_getElem? (i := 385) (by decide +kernel)) rfl, z_in (List.mem_of_getElem? (i := 386) (by decide +kernel)) rfl, lb_X4_alloc⟩
theorem ml_X4_108 : z_LS RX4 108 yX4_isBySize 1 := ⟨z_in (List.mem_of_getElem? (i := 388) (by decide +kernel)) rfl, z_in (List.mem_of_getElem? (i := 389) (by decide +kernel)) rfl, lb_X4_isBySize⟩
theorem ml_X4_111 : z_LS RX4 111 yX4_kindFor 1 := ⟨z_in (List.mem_of_getElem? (i := 391) (by decide +kernel)) rfl, z_in (List.mem_of_getElem? (i := 392) (by decide +kernel)) rfl, lb_X4_kindFor⟩
theorem ml_X4_123 : z_LS RX4 123 yX4_bytesOfKind 1 := ⟨z_in (List.mem_of_getElem? (i := 394) (by decide +kernel)) rfl, z_in (List.mem_of_getElem? (i := 395) (by decide +kernel)) rfl, lb_X4_bytesOfKind⟩
theorem ml_X4_114 : z_LV RX4 114 yX4_takeKind 1 := ⟨z_in (List.mem_of_getElem? (i := 397) (by decide +kernel)) rfl, z_in (List.mem_of_getElem? (i := 399) (by decide +kernel)) rfl, z_in (List.mem_of_getElem? (i := 14) (by decide +kernel)) rfl, lb_X4_takeKind⟩
theorem ml_L_53 : z_LV RL 53 yX4_free 1 := ⟨z_in (List.mem_of_getElem? (i := 401) (by decide +kernel)) rfl, z_in (List.mem_of_getElem? (i := 402) (by decide +kernel)) rfl, z_in (List.mem_of_getElem? (i := 403) (by decide +kernel)) rfl, lb_X4_free⟩
theorem ml_X4_117 : z_LV RX4 117 yX4_wrongBySize 1 := ⟨z_in (List.mem_of_getElem? (i := 405) (by decide +kernel)) rfl, z_in (List.mem_of_getElem? (i := 407) (by decide +kernel)) rfl, z_in (List.mem_of_getElem? (i := 15) (by decide +kernel)) rfl, lb_X4_wrongBySize⟩
theorem ml_X4_120 : z_LV RX4 120 yX4_kindAt 1 := ⟨z_in (List.mem_of_getElem? (i := 409) (by decide +kernel)) rfl, z_in (List.mem_of_getElem? (i := 411) (by decide +kernel)) rfl, z_in (List.mem_of_getElem? (i := 16) (by decide +kernel)) rfl, lb_X4_kindAt⟩
theorem ml_X4_126 : z_LV RX4 126 yX4_giveBySize 1 := ⟨z_in (List.mem_of_getElem? (i := 413) (by decide +kernel)) rfl, z_in (List.mem_of_getElem? (i := 415) (by decide +kernel)) rfl, z_in (List.mem_of_getElem? (i := 17) (by decide +kernel)) rfl, lb_X4_giveBySize⟩
theorem ml_L_57 : z_LV RL 57 yX4_resize 2 := ⟨z_in (List.mem_of_getElem? (i := 417) (by decide +kernel)) rfl, z_in (List.mem_of_getElem? (i := 418) (by decide +kernel)) rfl, z_in (List.mem_of_getElem? (i := 419) (by decide +kernel)) rfl, lb_X4_resize⟩
theorem ml_X4_129 : z_LV RX4 129 yX2_copy 3 := ⟨z_in (List.mem_of_getElem? (i := 421) (by decide +kernel)) rfl, z_in (List.mem_of_getElem? (i := 422) (by decide +kernel)) rfl, z_in (List.mem_of_getElem? (i := 423) (by decide +kernel)) rfl, lb_X2_copy⟩
theorem ml_X2_23 : Cond.methodLink RX2 23 arraycopyName ∈ z_W := z_in (List.mem_of_getElem? (i := 425) (by decide +kernel)) rfl
theorem ml_X2_29 : z_LV RX2 29 yX2_get 1 := ⟨z_in (List.mem_of_getElem? (i := 428) (by decide +kernel)) rfl, z_in (List.mem_of_getElem? (i := 429) (by decide +kernel)) rfl, z_in (List.mem_of_getElem? (i := 430) (by decide +kernel)) rfl, lb_X2_get⟩
theorem ml_X2_15 : z_LS RX2 15 yX2_shiftOf 1 := ⟨z_in (List.mem_of_getElem? (i := 432) (by decide +kernel)) rfl, z_in (List.mem_of_getElem? (i := 433) (by decide +kernel)) rfl, lb_X2_shiftOf⟩
theorem ml_X2_32 : z_LV RX2 32 yX2_put 2 := ⟨z_in (List.mem_of_getElem? (i := 435) (by decide +kernel)) rfl, z_in (List.mem_of_getElem? (i := 436) (by decide +kernel)) rfl, z_in (List.mem_of_getElem? (i := 437) (by decide +kernel)) rfl, lb_X2_put⟩
theorem ml_L_61 : z_LV RL 61 yX4_size 1 := ⟨z_in (List.mem_of_getElem? (i := 441) (by decide +kernel)) rfl, z_in (List.mem_of_getElem? (i := 442) (by decide +kernel)) rfl, z_in (List.mem_of_getElem? (i := 443) (by decide +kernel)) rfl, lb_X4_size⟩
theorem ml_L_65 : z_LV RL 65 yX4_read 1 := ⟨z_in (List.mem_of_getElem? (i := 445) (by decide +kernel)) rfl, z_in (List.mem_of_getElem? (i := 446) (by decide +kernel)) rfl, z_in (List.mem_of_getElem? (i := 447) (by decide +kernel)) rfl, lb_X4_read⟩
theorem ml_X4_135 : z_LV RX4 135 yX2_get 1 := ⟨z_in (List.mem_of_getElem? (i := 449) (by decide +kernel)) rfl, z_in (List.mem_of_getElem? (i := 429) (by decide +kernel)) rfl, z_in (List.mem_of_getElem? (i := 430) (by decide +kernel)) rfl, lb_X2_get⟩
theorem ml_L_69 : z_LV RL 69 yX4_write 2 := ⟨z_in (List.mem_of_getElem? (i := 450) (by decide +kernel)) rfl, z_in (List.mem_of_getElem? (i := 451) (by decide +kernel)) rfl, z_in (List.mem_of_getElem? (i := 452) (by decide +kernel)) rfl, lb_X4_write⟩
theorem ml_X4_138 : z_LV RX4 138 yX2_put 2 := ⟨z_in (List.mem_of_getElem? (i := 454) (by decide +kernel)) rfl, z_in (List.mem_of_getElem? (i := 436) (by decide +kernel)) rfl, z_in (List.mem_of_getElem? (i := 437) (by decide +kernel)) rfl, lb_X2_put⟩
theorem ml_L_73 : z_LV RL 73 yX4_arm 1 := ⟨z_in (List.mem_of_getElem? (i := 455) (by decide +kernel)) rfl, z_in (List.mem_of_getElem? (i := 456) (by decide +kernel)) rfl, z_in (List.mem_of_getElem? (i := 457) (by decide +kernel)) rfl, lb_X4_arm⟩
theorem ml_L_78 : z_LV RL 78 yX4_ofPage 1 := ⟨z_in (List.mem_of_getElem? (i := 459) (by decide +kernel)) rfl, z_in (List.mem_of_getElem? (i := 460) (by decide +kernel)) rfl, z_in (List.mem_of_getElem? (i := 461) (by decide +kernel)) rfl, lb_X4_ofPage⟩
theorem ml_L_82 : z_LV RL 82 yX4_block 1 := ⟨z_in (List.mem_of_getElem? (i := 463) (by decide +kernel)) rfl, z_in (List.mem_of_getElem? (i := 464) (by decide +kernel)) rfl, z_in (List.mem_of_getElem? (i := 465) (by decide +kernel)) rfl, lb_X4_block⟩
theorem ml_L_86 : z_LV RL 86 yX4_order 1 := ⟨z_in (List.mem_of_getElem? (i := 467) (by decide +kernel)) rfl, z_in (List.mem_of_getElem? (i := 468) (by decide +kernel)) rfl, z_in (List.mem_of_getElem? (i := 469) (by decide +kernel)) rfl, lb_X4_order⟩
theorem ml_L_90 : z_LV RL 90 yX4_freeBlocks 1 := ⟨z_in (List.mem_of_getElem? (i := 471) (by decide +kernel)) rfl, z_in (List.mem_of_getElem? (i := 472) (by decide +kernel)) rfl, z_in (List.mem_of_getElem? (i := 473) (by decide +kernel)) rfl, lb_X4_freeBlocks⟩
theorem ml_L_94 : z_LV RL 94 yX4_ofCache 2 := ⟨z_in (List.mem_of_getElem? (i := 475) (by decide +kernel)) rfl, z_in (List.mem_of_getElem? (i := 476) (by decide +kernel)) rfl, z_in (List.mem_of_getElem? (i := 477) (by decide +kernel)) rfl, lb_X4_ofCache⟩
theorem ml_X4_157 : z_LV RX4 157 yX1_figure 1 := ⟨z_in (List.mem_of_getElem? (i := 479) (by decide +kernel)) rfl, z_in (List.mem_of_getElem? (i := 480) (by decide +kernel)) rfl, z_in (List.mem_of_getElem? (i := 481) (by decide +kernel)) rfl, lb_X1_figure⟩
theorem ml_L_98 : z_LV RL 98 yX4_count 1 := ⟨z_in (List.mem_of_getElem? (i := 483) (by decide +kernel)) rfl, z_in (List.mem_of_getElem? (i := 484) (by decide +kernel)) rfl, z_in (List.mem_of_getElem? (i := 485) (by decide +kernel)) rfl, lb_X4_count⟩
theorem ml_X4_172 : z_LV RX4 172 yX4_liveObjects 0 := ⟨z_in (List.mem_of_getElem? (i := 487) (by decide +kernel)) rfl, z_in (List.mem_of_getElem? (i := 489) (by decide +kernel)) rfl, z_in (List.mem_of_getElem? (i := 18) (by decide +kernel)) rfl, lb_X4_liveObjects⟩
theorem ml_L_12 : z_LI RL 12 yX5_init 0 := ⟨z_in (List.mem_of_getElem? (i := 493) (by decide +kernel)) rfl, z_in (List.mem_of_getElem? (i := 494) (by decide +kernel)) rfl, rfl, lb_X5_init⟩
theorem ml_X5_1 : Cond.methodLink RX5 1 Lib.objectInit ∈ z_W := z_in (List.mem_of_getElem? (i := 496) (by decide +kernel)) rfl
theorem ml_X5_54 : z_LV RX5 54 yX5_addCache 2 := ⟨z_in (List.mem_of_getElem? (i := 497) (by decide +kernel)) rfl, z_in (List.mem_of_getElem? (i := 499) (by decide +kernel)) rfl, z_in (List.mem_of_getElem? (i := 19) (by decide +kernel)) rfl, lb_X5_addCache⟩
theorem ml_L_17 : z_LV RL 17 yX5_usable 2 := ⟨z_in (List.mem_of_getElem? (i := 562) (by decide +kernel)) rfl, z_in (List.mem_of_getElem? (i := 563) (by decide +kernel)) rfl, z_in (List.mem_of_getElem? (i := 564) (by decide +kernel)) rfl, lb_X5_usable⟩
theorem ml_X5_62 : z_LS RX5 62 yX5_in 3 := ⟨z_in (List.mem_of_getElem? (i := 566) (by decide +kernel)) rfl, z_in (List.mem_of_getElem? (i := 567) (by decide +kernel)) rfl, lb_X5_in⟩
theorem ml_L_22 : z_LV RL 22 yX5_start 0 := ⟨z_in (List.mem_of_getElem? (i := 569) (by decide +kernel)) rfl, z_in (List.mem_of_getElem? (i := 570) (by decide +kernel)) rfl, z_in (List.mem_of_getElem? (i := 571) (by decide +kernel)) rfl, lb_X5_start⟩
theorem ml_X5_66 : z_LV RX5 66 yX5_areUsable 2 := ⟨z_in (List.mem_of_getElem? (i := 573) (by decide +kernel)) rfl, z_in (List.mem_of_getElem? (i := 575) (by decide +kernel)) rfl, z_in (List.mem_of_getElem? (i := 20) (by decide +kernel)) rfl, lb_X5_areUsable⟩
theorem ml_X5_70 : z_LV RX5 70 yX5_makeBlock 3 := ⟨z_in (List.mem_of_getElem? (i := 577) (by decide +kernel)) rfl, z_in (List.mem_of_getElem? (i := 579) (by decide +kernel)) rfl, z_in (List.mem_of_getElem? (i := 21) (by decide +kernel)) rfl, lb_X5_makeBlock⟩
theorem ml_X5_74 : z_LV RX5 74 yX5_usablePages 0 := ⟨z_in (List.mem_of_getElem? (i := 581) (by decide +kernel)) rfl, z_in (List.mem_of_getElem? (i := 583) (by decide +kernel)) rfl, z_in (List.mem_of_getElem? (i := 22) (by decide +kernel)) rfl, lb_X5_usablePages⟩
theorem ml_L_27 : z_LV RL 27 yX5_pages 1 := ⟨z_in (List.mem_of_getElem? (i := 585) (by decide +kernel)) rfl, z_in (List.mem_of_getElem? (i := 586) (by decide +kernel)) rfl, z_in (List.mem_of_getElem? (i := 587) (by decide +kernel)) rfl, lb_X5_pages⟩
theorem ml_X5_100 : z_LV RX5 100 yX5_takeBlock 1 := ⟨z_in (List.mem_of_getElem? (i := 589) (by decide +kernel)) rfl, z_in (List.mem_of_getElem? (i := 591) (by decide +kernel)) rfl, z_in (List.mem_of_getElem? (i := 23) (by decide +kernel)) rfl, lb_X5_takeBlock⟩
theorem ml_X5_82 : z_LV RX5 82 yX5_isFree 1 := ⟨z_in (List.mem_of_getElem? (i := 593) (by decide +kernel)) rfl, z_in (List.mem_of_getElem? (i := 595) (by decide +kernel)) rfl, z_in (List.mem_of_getElem? (i := 24) (by decide +kernel)) rfl, lb_X5_isFree⟩
theorem ml_X5_78 : z_LV RX5 78 yX5_isFirst 1 := ⟨z_in (List.mem_of_getElem? (i := 597) (by decide +kernel)) rfl, z_in (List.mem_of_getElem? (i := 599) (by decide +kernel)) rfl, z_in (List.mem_of_getElem? (i := 25) (by decide +kernel)) rfl, lb_X5_isFirst⟩
theorem ml_X5_91 : z_LV RX5 91 yX5_freePageCount 0 := ⟨z_in (List.mem_of_getElem? (i := 601) (by decide +kernel)) rfl, z_in (List.mem_of_getElem? (i := 603) (by decide +kernel)) rfl, z_in (List.mem_of_getElem? (i := 26) (by decide +kernel)) rfl, lb_X5_freePageCount⟩
theorem ml_L_31 : z_LV RL 31 yX5_freePages 1 := ⟨z_in (List.mem_of_getElem? (i := 605) (by decide +kernel)) rfl, z_in (List.mem_of_getElem? (i := 606) (by decide +kernel)) rfl, z_in (List.mem_of_getElem? (i := 607) (by decide +kernel)) rfl, lb_X5_freePages⟩
theorem ml_X5_104 : z_LV RX5 104 yX5_faultOfPage 1 := ⟨z_in (List.mem_of_getElem? (i := 609) (by decide +kernel)) rfl, z_in (List.mem_of_getElem? (i := 611) (by decide +kernel)) rfl, z_in (List.mem_of_getElem? (i := 27) (by decide +kernel)) rfl, lb_X5_faultOfPage⟩
theorem ml_X5_107 : z_LV RX5 107 yX5_giveBlock 1 := ⟨z_in (List.mem_of_getElem? (i := 613) (by decide +kernel)) rfl, z_in (List.mem_of_getElem? (i := 615) (by decide +kernel)) rfl, z_in (List.mem_of_getElem? (i := 28) (by decide +kernel)) rfl, lb_X5_giveBlock⟩
theorem ml_L_36 : z_LV RL 36 yX5_cache 2 := ⟨z_in (List.mem_of_getElem? (i := 617) (by decide +kernel)) rfl, z_in (List.mem_of_getElem? (i := 618) (by decide +kernel)) rfl, z_in (List.mem_of_getElem? (i := 619) (by decide +kernel)) rfl, lb_X5_cache⟩
theorem ml_L_40 : z_LV RL 40 yX5_take 1 := ⟨z_in (List.mem_of_getElem? (i := 621) (by decide +kernel)) rfl, z_in (List.mem_of_getElem? (i := 622) (by decide +kernel)) rfl, z_in (List.mem_of_getElem? (i := 623) (by decide +kernel)) rfl, lb_X5_take⟩
theorem ml_X5_116 : z_LV RX5 116 yX5_isCache 1 := ⟨z_in (List.mem_of_getElem? (i := 625) (by decide +kernel)) rfl, z_in (List.mem_of_getElem? (i := 627) (by decide +kernel)) rfl, z_in (List.mem_of_getElem? (i := 29) (by decide +kernel)) rfl, lb_X5_isCache⟩
theorem ml_X5_119 : z_LV RX5 119 yX5_isSlab 2 := ⟨z_in (List.mem_of_getElem? (i := 629) (by decide +kernel)) rfl, z_in (List.mem_of_getElem? (i := 631) (by decide +kernel)) rfl, z_in (List.mem_of_getElem? (i := 30) (by decide +kernel)) rfl, lb_X5_isSlab⟩
theorem ml_X5_122 : z_LV RX5 122 yX5_liveOf 1 := ⟨z_in (List.mem_of_getElem? (i := 633) (by decide +kernel)) rfl, z_in (List.mem_of_getElem? (i := 635) (by decide +kernel)) rfl, z_in (List.mem_of_getElem? (i := 31) (by decide +kernel)) rfl, lb_X5_liveOf⟩
theorem ml_X5_113 : z_LV RX5 113 yX5_objectsOf 1 := ⟨z_in (List.mem_of_getElem? (i := 637) (by decide +kernel)) rfl, z_in (List.mem_of_getElem? (i := 639) (by decide +kernel)) rfl, z_in (List.mem_of_getElem? (i := 32) (by decide +kernel)) rfl, lb_X5_objectsOf⟩
theorem ml_X5_125 : z_LV RX5 125 yX5_newSlab 1 := ⟨z_in (List.mem_of_getElem? (i := 641) (by decide +kernel)) rfl, z_in (List.mem_of_getElem? (i := 643) (by decide +kernel)) rfl, z_in (List.mem_of_getElem? (i := 33) (by decide +kernel)) rfl, lb_X5_newSlab⟩
theorem ml_L_44 : z_LV RL 44 yX5_give 2 := ⟨z_in (List.mem_of_getElem? (i := 645) (by decide +kernel)) rfl, z_in (List.mem_of_getElem? (i := 646) (by decide +kernel)) rfl, z_in (List.mem_of_getElem? (i := 647) (by decide +kernel)) rfl, lb_X5_give⟩
theorem ml_X5_128 : z_LV RX5 128 yX5_slabAt 1 := ⟨z_in (List.mem_of_getElem? (i := 649) (by decide +kernel)) rfl, z_in (List.mem_of_getElem? (i := 651) (by decide +kernel)) rfl, z_in (List.mem_of_getElem? (i := 34) (by decide +kernel)) rfl, lb_X5_slabAt⟩
theorem ml_X5_131 : z_LV RX5 131 yX5_faultOfObject 2 := ⟨z_in (List.mem_of_getElem? (i := 653) (by decide +kernel)) rfl, z_in (List.mem_of_getElem? (i := 655) (by decide +kernel)) rfl, z_in (List.mem_of_getElem? (i := 35) (by decide +kernel)) rfl, lb_X5_faultOfObject⟩
theorem ml_X5_134 : z_LV RX5 134 yX5_giveObject 2 := ⟨z_in (List.mem_of_getElem? (i := 657) (by decide +kernel)) rfl, z_in (List.mem_of_getElem? (i := 659) (by decide +kernel)) rfl, z_in (List.mem_of_getElem? (i := 36) (by decide +kernel)) rfl, lb_X5_giveObject⟩
theorem ml_L_48 : z_LV RL 48 yX5_shrink 1 := ⟨z_in (List.mem_of_getElem? (i := 661) (by decide +kernel)) rfl, z_in (List.mem_of_getElem? (i := 662) (by decide +kernel)) rfl, z_in (List.mem_of_getElem? (i := 663) (by decide +kernel)) rfl, lb_X5_shrink⟩
theorem ml_L_52 : z_LV RL 52 yX5_alloc 1 := ⟨z_in (List.mem_of_getElem? (i := 665) (by decide +kernel)) rfl, z_in (List.mem_of_getElem? (i := 666) (by decide +kernel)) rfl, z_in (List.mem_of_getElem? (i := 667) (by decide +kernel)) rfl, lb_X5_alloc⟩
theorem ml_X5_137 : z_LS RX5 137 yX5_classOf 1 := ⟨z_in (List.mem_of_getElem? (i := 669) (by decide +kernel)) rfl, z_in (List.mem_of_getElem? (i := 670) (by decide +kernel)) rfl, lb_X5_classOf⟩
theorem ml_X5_140 : z_LV RX5 140 yX5_take 1 := ⟨z_in (List.mem_of_getElem? (i := 672) (by decide +kernel)) rfl, z_in (List.mem_of_getElem? (i := 622) (by decide +kernel)) rfl, z_in (List.mem_of_getElem? (i := 623) (by decide +kernel)) rfl, lb_X5_take⟩
theorem ml_L_56 : z_LV RL 56 yX5_free 1 := ⟨z_in (List.mem_of_getElem? (i := 673) (by decide +kernel)) rfl, z_in (List.mem_of_getElem? (i := 674) (by decide +kernel)) rfl, z_in (List.mem_of_getElem? (i := 675) (by decide +kernel)) rfl, lb_X5_free⟩
theorem ml_X5_143 : z_LV RX5 143 yX5_classAt 1 := ⟨z_in (List.mem_of_getElem? (i := 677) (by decide +kernel)) rfl, z_in (List.mem_of_getElem? (i := 679) (by decide +kernel)) rfl, z_in (List.mem_of_getElem? (i := 37) (by decide +kernel)) rfl, lb_X5_classAt⟩
theorem ml_X5_146 : z_LV RX5 146 yX5_release 2 := ⟨z_in (List.mem_of_getElem? (i := 681) (by decide +kernel)) rfl, z_in (List.mem_of_getElem? (i := 683) (by decide +kernel)) rfl, z_in (List.mem_of_getElem? (i := 38) (by decide +kernel)) rfl, lb_X5_release⟩
theorem ml_X5_149 : z_LS RX5 149 yX5_bytesOf 1 := ⟨z_in (List.mem_of_getElem? (i := 685) (by decide +kernel)) rfl, z_in (List.mem_of_getElem? (i := 686) (by decide +kernel)) rfl, lb_X5_bytesOf⟩
theorem ml_L_64 : z_LV RL 64 yX5_size 1 := ⟨z_in (List.mem_of_getElem? (i := 688) (by decide +kernel)) rfl, z_in (List.mem_of_getElem? (i := 689) (by decide +kernel)) rfl, z_in (List.mem_of_getElem? (i := 690) (by decide +kernel)) rfl, lb_X5_size⟩
theorem ml_L_60 : z_LV RL 60 yX5_resize 2 := ⟨z_in (List.mem_of_getElem? (i := 692) (by decide +kernel)) rfl, z_in (List.mem_of_getElem? (i := 693) (by decide +kernel)) rfl, z_in (List.mem_of_getElem? (i := 694) (by decide +kernel)) rfl, lb_X5_resize⟩
theorem ml_X5_152 : z_LV RX5 152 yX5_alloc 1 := ⟨z_in (List.mem_of_getElem? (i := 696) (by decide +kernel)) rfl, z_in (List.mem_of_getElem? (i := 666) (by decide +kernel)) rfl, z_in (List.mem_of_getElem? (i := 667) (by decide +kernel)) rfl, lb_X5_alloc⟩
theorem ml_L_68 : z_LV RL 68 yX5_read 1 := ⟨z_in (List.mem_of_getElem? (i := 697) (by decide +kernel)) rfl, z_in (List.mem_of_getElem? (i := 698) (by decide +kernel)) rfl, z_in (List.mem_of_getElem? (i := 699) (by decide +kernel)) rfl, lb_X5_read⟩
theorem ml_X5_155 : z_LS RX5 155 yX5_isAddress 1 := ⟨z_in (List.mem_of_getElem? (i := 701) (by decide +kernel)) rfl, z_in (List.mem_of_getElem? (i := 702) (by decide +kernel)) rfl, lb_X5_isAddress⟩
theorem ml_L_72 : z_LV RL 72 yX5_write 2 := ⟨z_in (List.mem_of_getElem? (i := 704) (by decide +kernel)) rfl, z_in (List.mem_of_getElem? (i := 705) (by decide +kernel)) rfl, z_in (List.mem_of_getElem? (i := 706) (by decide +kernel)) rfl, lb_X5_write⟩
theorem ml_L_77 : z_LV RL 77 yX5_arm 1 := ⟨z_in (List.mem_of_getElem? (i := 708) (by decide +kernel)) rfl, z_in (List.mem_of_getElem? (i := 709) (by decide +kernel)) rfl, z_in (List.mem_of_getElem? (i := 710) (by decide +kernel)) rfl, lb_X5_arm⟩
theorem ml_L_81 : z_LV RL 81 yX5_ofPage 1 := ⟨z_in (List.mem_of_getElem? (i := 712) (by decide +kernel)) rfl, z_in (List.mem_of_getElem? (i := 713) (by decide +kernel)) rfl, z_in (List.mem_of_getElem? (i := 714) (by decide +kernel)) rfl, lb_X5_ofPage⟩
theorem ml_L_85 : z_LV RL 85 yX5_block 1 := ⟨z_in (List.mem_of_getElem? (i := 716) (by decide +kernel)) rfl, z_in (List.mem_of_getElem? (i := 717) (by decide +kernel)) rfl, z_in (List.mem_of_getElem? (i := 718) (by decide +kernel)) rfl, lb_X5_block⟩
theorem ml_L_89 : z_LV RL 89 yX5_order 1 := ⟨z_in (List.mem_of_getElem? (i := 720) (by decide +kernel)) rfl, z_in (List.mem_of_getElem? (i := 721) (by decide +kernel)) rfl, z_in (List.mem_of_getElem? (i := 722) (by decide +kernel)) rfl, lb_X5_order⟩
theorem ml_X5_158 : z_LV RX5 158 yX5_block 1 := ⟨z_in (List.mem_of_getElem? (i := 724) (by decide +kernel)) rfl, z_in (List.mem_of_getElem? (i := 717) (by decide +kernel)) rfl, z_in (List.mem_of_getElem? (i := 718) (by decide +kernel)) rfl, lb_X5_block⟩
theorem ml_L_93 : z_LV RL 93 yX5_freeBlocks 1 := ⟨z_in (List.mem_of_getElem? (i := 725) (by decide +kernel)) rfl, z_in (List.mem_of_getElem? (i := 726) (by decide +kernel)) rfl, z_in (List.mem_of_getElem? (i := 727) (by decide +kernel)) rfl, lb_X5_freeBlocks⟩
theorem ml_L_97 : z_LV RL 97 yX5_ofCache 2 := ⟨z_in (List.mem_of_getElem? (i := 729) (by decide +kernel)) rfl, z_in (List.mem_of_getElem? (i := 730) (by decide +kernel)) rfl, z_in (List.mem_of_getElem? (i := 731) (by decide +kernel)) rfl, lb_X5_ofCache⟩
theorem ml_X5_161 : z_LV RX5 161 yX5_slabsOf 1 := ⟨z_in (List.mem_of_getElem? (i := 733) (by decide +kernel)) rfl, z_in (List.mem_of_getElem? (i := 735) (by decide +kernel)) rfl, z_in (List.mem_of_getElem? (i := 39) (by decide +kernel)) rfl, lb_X5_slabsOf⟩
theorem ml_X5_164 : z_LV RX5 164 yX5_liveIn 1 := ⟨z_in (List.mem_of_getElem? (i := 737) (by decide +kernel)) rfl, z_in (List.mem_of_getElem? (i := 739) (by decide +kernel)) rfl, z_in (List.mem_of_getElem? (i := 40) (by decide +kernel)) rfl, lb_X5_liveIn⟩
theorem ml_L_101 : z_LV RL 101 yX5_count 1 := ⟨z_in (List.mem_of_getElem? (i := 741) (by decide +kernel)) rfl, z_in (List.mem_of_getElem? (i := 742) (by decide +kernel)) rfl, z_in (List.mem_of_getElem? (i := 743) (by decide +kernel)) rfl, lb_X5_count⟩
theorem ml_X4_11 : z_LIN RX4 11 yX2_init "PageSlabs" 0 := ⟨by simp [z_N, RX4], z_in (List.mem_of_getElem? (i := 62) (by decide +kernel)) rfl, rfl, lb_X2_init⟩
theorem ml_X4_18 : z_LIN RX4 18 yX0_init "PageSlabs" 0 := ⟨by simp [z_N, RX4], z_in (List.mem_of_getElem? (i := 73) (by decide +kernel)) rfl, rfl, lb_X0_init⟩
theorem ml_X0_43 : z_LSN RX0 43 yX4_isPage "PageSlabs" 1 := ⟨by simp [z_N, RX0], z_in (List.mem_of_getElem? (i := 260) (by decide +kernel)) rfl, lb_X4_isPage⟩
theorem ml_X4_216 : z_LIN RX4 216 yX3_init "PageSlabs" 0 := ⟨by simp [z_N, RX4], z_in (List.mem_of_getElem? (i := 311) (by decide +kernel)) rfl, rfl, lb_X3_init⟩
theorem cl_X3_32 : Cond.constantLong RX3 32 (-1) ∈ z_W := z_in (List.mem_of_getElem? (i := 371) (by decide +kernel)) rfl
theorem cl_X2_19 : Cond.constantLong RX2 19 (255) ∈ z_W := z_in (List.mem_of_getElem? (i := 439) (by decide +kernel)) rfl
theorem cl_X2_21 : Cond.constantLong RX2 21 (-1) ∈ z_W := z_in (List.mem_of_getElem? (i := 440) (by decide +kernel)) rfl
theorem cl_J6_265 : Cond.constant RJ6 265 (1431655765) ∈ z_W := z_in (List.mem_of_getElem? (i := 281) (by decide +kernel)) rfl
theorem cl_J6_266 : Cond.constant RJ6 266 (858993459) ∈ z_W := z_in (List.mem_of_getElem? (i := 282) (by decide +kernel)) rfl
theorem cl_J6_267 : Cond.constant RJ6 267 (252645135) ∈ z_W := z_in (List.mem_of_getElem? (i := 283) (by decide +kernel)) rfl
theorem ck_L_7 : Cond.classLink RL 7 RX4 ∈ z_W := z_in (List.mem_of_getElem? (i := 51) (by decide +kernel)) rfl
theorem ck_X4_9 : Cond.classLink RX4 9 RX2 ∈ z_W := z_in (List.mem_of_getElem? (i := 59) (by decide +kernel)) rfl
theorem ck_X4_16 : Cond.classLink RX4 16 RX0 ∈ z_W := z_in (List.mem_of_getElem? (i := 70) (by decide +kernel)) rfl
theorem ck_X4_23 : Cond.classLink RX4 23 RX3 ∈ z_W := z_in (List.mem_of_getElem? (i := 124) (by decide +kernel)) rfl
theorem ck_X4_29 : Cond.classLink RX4 29 RX1 ∈ z_W := z_in (List.mem_of_getElem? (i := 126) (by decide +kernel)) rfl
theorem ck_L_10 : Cond.classLink RL 10 RX5 ∈ z_W := z_in (List.mem_of_getElem? (i := 491) (by decide +kernel)) rfl
theorem iq_X4 : Cond.instantiable RX4 5 ∈ z_W := z_in (List.mem_of_getElem? (i := 52) (by decide +kernel)) rfl
theorem iq_X2 : Cond.instantiable RX2 1 ∈ z_W := z_in (List.mem_of_getElem? (i := 60) (by decide +kernel)) rfl
theorem iq_X0 : Cond.instantiable RX0 12 ∈ z_W := z_in (List.mem_of_getElem? (i := 71) (by decide +kernel)) rfl
theorem iq_X1 : Cond.instantiable RX1 9 ∈ z_W := z_in (List.mem_of_getElem? (i := 128) (by decide +kernel)) rfl
theorem iq_X3 : Cond.instantiable RX3 4 ∈ z_W := z_in (List.mem_of_getElem? (i := 309) (by decide +kernel)) rfl
theorem iq_X5 : Cond.instantiable RX5 20 ∈ z_W := z_in (List.mem_of_getElem? (i := 492) (by decide +kernel)) rfl
theorem in_L : Cond.initialized RL ∈ z_W := z_in (List.mem_of_getElem? (i := 41) (by decide +kernel)) rfl
theorem in_X4 : Cond.initialized RX4 ∈ z_W := z_in (List.mem_of_getElem? (i := 42) (by decide +kernel)) rfl
theorem in_X2 : Cond.initialized RX2 ∈ z_W := z_in (List.mem_of_getElem? (i := 43) (by decide +kernel)) rfl
theorem in_X0 : Cond.initialized RX0 ∈ z_W := z_in (List.mem_of_getElem? (i := 44) (by decide +kernel)) rfl
theorem in_X1 : Cond.initialized RX1 ∈ z_W := z_in (List.mem_of_getElem? (i := 45) (by decide +kernel)) rfl
theorem in_J9 : Cond.initialized RJ9 ∈ z_W := z_in (List.mem_of_getElem? (i := 46) (by decide +kernel)) rfl
theorem in_X5 : Cond.initialized RX5 ∈ z_W := z_in (List.mem_of_getElem? (i := 47) (by decide +kernel)) rfl
theorem in_J6 : Cond.initialized RJ6 ∈ z_W := z_in (List.mem_of_getElem? (i := 48) (by decide +kernel)) rfl
theorem in_X3 : Cond.initialized RX3 ∈ z_W := z_in (List.mem_of_getElem? (i := 49) (by decide +kernel)) rfl
theorem in_J10 : Cond.initialized RJ10 ∈ z_W := z_in (List.mem_of_getElem? (i := 50) (by decide +kernel)) rfl
theorem ac_long : Cond.arrayClass .long ∈ z_W := z_in (List.mem_of_getElem? (i := 69) (by decide +kernel)) rfl
theorem ac_boolean : Cond.arrayClass .boolean ∈ z_W := z_in (List.mem_of_getElem? (i := 122) (by decide +kernel)) rfl
theorem ac_int : Cond.arrayClass .int ∈ z_W := z_in (List.mem_of_getElem? (i := 123) (by decide +kernel)) rfl
theorem na_copy : Cond.native arraycopyName ∈ z_W := z_in (List.mem_of_getElem? (i := 427) (by decide +kernel)) rfl
theorem st_min : Cond.static Lib.Math.min.name ∈ z_W := z_in (List.mem_of_getElem? (i := 130) (by decide +kernel)) rfl
theorem st_max : Cond.static Lib.Math.max.name ∈ z_W := z_in (List.mem_of_getElem? (i := 245) (by decide +kernel)) rfl
theorem st_copy : Cond.static arraycopyName ∈ z_W := z_in (List.mem_of_getElem? (i := 426) (by decide +kernel)) rfl
theorem im_obj : Cond.instanceMethod Lib.objectInit ∈ z_W := z_in (List.mem_of_getElem? (i := 57) (by decide +kernel)) rfl
set_option maxRecDepth 100000 in
theorem kc_obj : Cond.code Lib.objectInit ⟨#[0xb1]⟩ 1 none ∈ z_W := z_in (List.mem_of_getElem? (i := 58) rfl) rfl
set_option maxRecDepth 100000 in
theorem kc_min : Cond.code Lib.Math.min.name Lib.Math.min.code 2 (some .int) ∈ z_W := z_in (List.mem_of_getElem? (i := 131) rfl) rfl
set_option maxRecDepth 100000 in
theorem kc_max : Cond.code Lib.Math.max.name Lib.Math.max.code 2 (some .int) ∈ z_W := z_in (List.mem_of_getElem? (i := 246) rfl) rfl
