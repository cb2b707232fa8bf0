/-! the law: its rules over the script, and one row a call -/
section ZL
variable {p : Program} {l : Launch} {e : Env} {R : Room} {s : State} {m : MethodId} {args : Array Value} {below : List Frame} {meth : Method} {c : Code} {Q : State → Prop} {cc : ByteArray} {own : String} {G : z_G} {base nL cells slots pc : Nat} {lv : List (Nat × Value)} {st : List Value} {hp : List va_E}
theorem z_slen (C : z_C p s m args meth c cc nL own G base) {b L : Nat} {xs : Nat → Int32} (hX : va_X b L xs s s.heap) (hbl : b < s.heap.size) (hbb : b < base) (hd : decode cc pc = .ok (.arraylength, 1)) (k : z_R p l e R s m args below meth c Q G base nL cells slots (pc + 1) lv (.int (nI L) :: st) hp) : z_R p l e R s m args below meth c Q G base nL cells slots pc lv (.ref b :: st) hp :=
  fun H locs ls h1 h2 h3 => va_slen C.1 C.2.1 hX hbl (Nat.not_le.mpr hbb) h2 hd (k H locs ls h1 h2 h3)
theorem z_sld (C : z_C p s m args meth c cc nL own G base) {b L i : Nat} {xs : Nat → Int32} (hX : va_X b L xs s s.heap) (hbl : b < s.heap.size) (hbb : b < base) (hi : i < L) (hL : L ≤ 1536) (hd : decode cc pc = .ok (.iaload, 1)) (k : z_R p l e R s m args below meth c Q G base nL cells slots (pc + 1) lv (.int (xs i) :: st) hp) : z_R p l e R s m args below meth c Q G base nL cells slots pc lv (.int (nI i) :: .ref b :: st) hp :=
  fun H locs ls h1 h2 h3 => va_sld C.1 C.2.1 hX hbl (Nat.not_le.mpr hbb) h2 (vp_in_nI hi (by omega)) hd (by rw [nI_clamp (by omega)]; exact k H locs ls h1 h2 h3)
end ZL
theorem KK.h0 {G : z_G} {base : Nat} {r' r : r_T} {hp : List va_E} (h : KK G base r' r hp) : ∃ nc, hp[0]? = some (q_oP base nc) := by
  obtain ⟨sc, td, q, nc, cf, pl, S, mem, xs, tl, hC, -, -⟩ := h
  exact ⟨nc, hC.1⟩
theorem KK.h16 {G : z_G} {base : Nat} {r' r : r_T} {hp : List va_E} (h : KK G base r' r hp) : hp[16]? = some (r_obj base r.1) := by
  obtain ⟨sc, td, q, nc, cf, pl, S, mem, xs, tl, -, rfl, -⟩ := h
  rfl
theorem tab21 (x : Int32) : (x.toInt < 0 ∨ 20 < x.toInt) ∨ ∃ j : Nat, j < 21 ∧ x = nI j := by
  by_cases h : x.toInt < 0 ∨ 20 < x.toInt
  · exact Or.inl h
  · refine Or.inr ⟨x.toInt.toNat, by omega, Int32.toInt_inj.mp ?_⟩
    rw [nI_toInt (by omega)]
    omega
set_option maxHeartbeats 4000000 in
set_option maxRecDepth 100000 in
theorem lc_0 {p : Program} {l : Launch} {e : Env} {s : State} {m : MethodId} {args : Array Value} {below : List Frame} {meth : Method} {c : Code} {Q : State → Prop} {G : z_G} {base cells slots : Nat} {hp : List va_E} {b L i : Nat} {xs : Nat → Int32} {r : r_T} (C : z_C p s m args meth c cL_law 4 RL G base) (hX : va_X b L xs s s.heap) (hbl : b < s.heap.size) (hbb : b < base) (hL : L ≤ 1536) (hi : i + 2 < L) (hK : KK G base r r hp) (hc : cells + 2 ≤ room_1.cells) (hs : slots + 68 ≤ room_1.slots)
    (kk : ∀ r' hp', KK G base r' r' hp' → z_R p l e room_1 s m args below meth c Q G base 4 (cells + 2) (slots + 68) 665 [(3, .int (nI i)), (2, .ref (base + 16)), (1, .ref (base + 0)), (0, .ref b)] [] hp') : z_R p l e room_1 s m args below meth c Q G base 4 cells slots 132 [(3, .int (nI i)), (2, .ref (base + 16)), (1, .ref (base + 0)), (0, .ref b)] [] hp := by
  refine z_aload_n C dL_law_132 rfl 2 rfl ?_
  refine z_aload_n C dL_law_133 rfl 3 rfl ?_
  refine z_iload_n C dL_law_134 rfl 0 rfl ?_
  refine z_iconst (v := 1) C dL_law_135 (by decide) ?_
  refine z_iadd C dL_law_136 ?_
  refine z_casti (y := nI (i + 1)) (nI_add i 1) ?_
  refine z_sld C hX hbl hbb (i := i + 1) (by omega) hL dL_law_137 ?_
  refine z_aload_n C dL_law_138 rfl 3 rfl ?_
  refine z_iload_n C dL_law_139 rfl 0 rfl ?_
  refine z_iconst (v := 2) C dL_law_140 (by decide) ?_
  refine z_iadd C dL_law_141 ?_
  refine z_casti (y := nI (i + 2)) (nI_add i 2) ?_
  refine z_sld C hX hbl hbb (i := i + 2) (by omega) hL dL_law_142 ?_
  obtain ⟨nc, h0⟩ := hK.h0
  refine z_callV (rest := []) C (w4_usable hK (xs (i + 1)) (xs (i + 2))) ml_L_13 kw_X4_usable h0 rfl rfl rfl (by simp [Value.category]) dL_law_143 (by decide) (by decide) (by omega) (by omega) ?_
  rintro _ hp1 ⟨rfl, hK1⟩
  refine z_st (st' := [.int (bI (r_usB r (xs (i + 1)) (xs (i + 2))))]) rfl ?_
  refine z_aload_n C dL_law_146 rfl 1 rfl ?_
  refine z_aload_n C dL_law_147 rfl 3 rfl ?_
  refine z_iload_n C dL_law_148 rfl 0 rfl ?_
  refine z_iconst (v := 1) C dL_law_149 (by decide) ?_
  refine z_iadd C dL_law_150 ?_
  refine z_casti (y := nI (i + 1)) (nI_add i 1) ?_
  refine z_sld C hX hbl hbb (i := i + 1) (by omega) hL dL_law_151 ?_
  refine z_aload_n C dL_law_152 rfl 3 rfl ?_
  refine z_iload_n C dL_law_153 rfl 0 rfl ?_
  refine z_iconst (v := 2) C dL_law_154 (by decide) ?_
  refine z_iadd C dL_law_155 ?_
  refine z_casti (y := nI (i + 2)) (nI_add i 2) ?_
  refine z_sld C hX hbl hbb (i := i + 2) (by omega) hL dL_law_156 ?_
  refine z_callV (rest := [.int (bI (r_usB r (xs (i + 1)) (xs (i + 2))))]) C (w5_usable hK.V hK1 (xs (i + 1)) (xs (i + 2))) ml_L_17 kw_X5_usable hK1.h16 rfl rfl rfl (by simp [Value.category]) dL_law_157 (by decide) (by decide) (by omega) (by omega) ?_
  rintro _ hp2 ⟨rfl, hK2⟩
  refine z_st (st' := [.int (bI (r_usB r (xs (i + 1)) (xs (i + 2)))), .int (bI (r_usB r (xs (i + 1)) (xs (i + 2))))]) rfl ?_
  exact z_icmp_eq (tgt := 665) C dL_law_160 (by decide) (fun _ => z_wid (by omega) (by omega) (kk _ _ hK2)) (fun h => absurd rfl h)
set_option maxHeartbeats 4000000 in
set_option maxRecDepth 100000 in
theorem lc_1 {p : Program} {l : Launch} {e : Env} {s : State} {m : MethodId} {args : Array Value} {below : List Frame} {meth : Method} {c : Code} {Q : State → Prop} {G : z_G} {base cells slots : Nat} {hp : List va_E} {b L i : Nat} {xs : Nat → Int32} {r : r_T} (C : z_C p s m args meth c cL_law 4 RL G base) (hX : va_X b L xs s s.heap) (hbl : b < s.heap.size) (hbb : b < base) (hL : L ≤ 1536) (hi : i + 2 < L) (hK : KK G base r r hp) (hc : cells + 2 ≤ room_1.cells) (hs : slots + 68 ≤ room_1.slots)
    (kk : ∀ r' hp', KK G base r' r' hp' → z_R p l e room_1 s m args below meth c Q G base 4 (cells + 2) (slots + 68) 665 [(3, .int (nI i)), (2, .ref (base + 16)), (1, .ref (base + 0)), (0, .ref b)] [] hp') : z_R p l e room_1 s m args below meth c Q G base 4 cells slots 165 [(3, .int (nI i)), (2, .ref (base + 16)), (1, .ref (base + 0)), (0, .ref b)] [] hp := by
  refine z_aload_n C dL_law_165 rfl 2 rfl ?_
  obtain ⟨nc, h0⟩ := hK.h0
  refine z_callV (rest := []) C (w4_start hK) ml_L_18 kw_X4_start h0 rfl rfl rfl (by simp [Value.category]) dL_law_166 (by decide) (by decide) (by omega) (by omega) ?_
  rintro _ hp1 ⟨rfl, hK1⟩
  refine z_st (st' := [.int (a_st r)]) rfl ?_
  refine z_aload_n C dL_law_169 rfl 1 rfl ?_
  refine z_callV (rest := [.int (a_st r)]) C (w5_start hK.V hK1) ml_L_22 kw_X5_start hK1.h16 rfl rfl rfl (by simp [Value.category]) dL_law_170 (by decide) (by decide) (by omega) (by omega) ?_
  rintro _ hp2 ⟨rfl, hK2⟩
  refine z_st (st' := [.int (a_st r), .int (a_st r)]) rfl ?_
  exact z_icmp_eq (tgt := 665) C dL_law_173 (by decide) (fun _ => z_wid (by omega) (by omega) (kk _ _ hK2)) (fun h => absurd rfl h)
set_option maxHeartbeats 4000000 in
set_option maxRecDepth 100000 in
theorem lc_2 {p : Program} {l : Launch} {e : Env} {s : State} {m : MethodId} {args : Array Value} {below : List Frame} {meth : Method} {c : Code} {Q : State → Prop} {G : z_G} {base cells slots : Nat} {hp : List va_E} {b L i : Nat} {xs : Nat → Int32} {r : r_T} (C : z_C p s m args meth c cL_law 4 RL G base) (hX : va_X b L xs s s.heap) (hbl : b < s.heap.size) (hbb : b < base) (hL : L ≤ 1536) (hi : i + 2 < L) (hK : KK G base r r hp) (hc : cells + 2 ≤ room_1.cells) (hs : slots + 68 ≤ room_1.slots)
    (kk : ∀ r' hp', KK G base r' r' hp' → z_R p l e room_1 s m args below meth c Q G base 4 (cells + 2) (slots + 68) 665 [(3, .int (nI i)), (2, .ref (base + 16)), (1, .ref (base + 0)), (0, .ref b)] [] hp') : z_R p l e room_1 s m args below meth c Q G base 4 cells slots 178 [(3, .int (nI i)), (2, .ref (base + 16)), (1, .ref (base + 0)), (0, .ref b)] [] hp := by
  refine z_aload_n C dL_law_178 rfl 2 rfl ?_
  refine z_aload_n C dL_law_179 rfl 3 rfl ?_
  refine z_iload_n C dL_law_180 rfl 0 rfl ?_
  refine z_iconst (v := 1) C dL_law_181 (by decide) ?_
  refine z_iadd C dL_law_182 ?_
  refine z_casti (y := nI (i + 1)) (nI_add i 1) ?_
  refine z_sld C hX hbl hbb (i := i + 1) (by omega) hL dL_law_183 ?_
  obtain ⟨nc, h0⟩ := hK.h0
  refine z_callV (rest := []) C (w4_pages hK (xs (i + 1))) ml_L_23 kw_X4_pages h0 rfl rfl rfl (by simp [Value.category]) dL_law_184 (by decide) (by decide) (by omega) (by omega) ?_
  rintro _ hp1 ⟨rfl, hK1⟩
  refine z_st (st' := [.int (r_pgA r (xs (i + 1)))]) rfl ?_
  refine z_aload_n C dL_law_187 rfl 1 rfl ?_
  refine z_aload_n C dL_law_188 rfl 3 rfl ?_
  refine z_iload_n C dL_law_189 rfl 0 rfl ?_
  refine z_iconst (v := 1) C dL_law_190 (by decide) ?_
  refine z_iadd C dL_law_191 ?_
  refine z_casti (y := nI (i + 1)) (nI_add i 1) ?_
  refine z_sld C hX hbl hbb (i := i + 1) (by omega) hL dL_law_192 ?_
  refine z_callV (rest := [.int (r_pgA r (xs (i + 1)))]) C (w5_pages hK.V hK1 (xs (i + 1))) ml_L_27 kw_X5_pages hK1.h16 rfl rfl rfl (by simp [Value.category]) dL_law_193 (by decide) (by decide) (by omega) (by omega) ?_
  rintro _ hp2 ⟨rfl, hK2⟩
  refine z_st (st' := [.int (r_pgA r (xs (i + 1))), .int (r_pgA r (xs (i + 1)))]) rfl ?_
  exact z_icmp_eq (tgt := 665) C dL_law_196 (by decide) (fun _ => z_wid (by omega) (by omega) (kk _ _ hK2)) (fun h => absurd rfl h)
set_option maxHeartbeats 4000000 in
set_option maxRecDepth 100000 in
theorem lc_3 {p : Program} {l : Launch} {e : Env} {s : State} {m : MethodId} {args : Array Value} {below : List Frame} {meth : Method} {c : Code} {Q : State → Prop} {G : z_G} {base cells slots : Nat} {hp : List va_E} {b L i : Nat} {xs : Nat → Int32} {r : r_T} (C : z_C p s m args meth c cL_law 4 RL G base) (hX : va_X b L xs s s.heap) (hbl : b < s.heap.size) (hbb : b < base) (hL : L ≤ 1536) (hi : i + 2 < L) (hK : KK G base r r hp) (hc : cells + 2 ≤ room_1.cells) (hs : slots + 68 ≤ room_1.slots)
    (kk : ∀ r' hp', KK G base r' r' hp' → z_R p l e room_1 s m args below meth c Q G base 4 (cells + 2) (slots + 68) 665 [(3, .int (nI i)), (2, .ref (base + 16)), (1, .ref (base + 0)), (0, .ref b)] [] hp') : z_R p l e room_1 s m args below meth c Q G base 4 cells slots 201 [(3, .int (nI i)), (2, .ref (base + 16)), (1, .ref (base + 0)), (0, .ref b)] [] hp := by
  refine z_aload_n C dL_law_201 rfl 2 rfl ?_
  refine z_aload_n C dL_law_202 rfl 3 rfl ?_
  refine z_iload_n C dL_law_203 rfl 0 rfl ?_
  refine z_iconst (v := 1) C dL_law_204 (by decide) ?_
  refine z_iadd C dL_law_205 ?_
  refine z_casti (y := nI (i + 1)) (nI_add i 1) ?_
  refine z_sld C hX hbl hbb (i := i + 1) (by omega) hL dL_law_206 ?_
  obtain ⟨nc, h0⟩ := hK.h0
  refine z_callV (rest := []) C (w4_freePages hK (xs (i + 1))) ml_L_28 kw_X4_freePages h0 rfl rfl rfl (by simp [Value.category]) dL_law_207 (by decide) (by decide) (by omega) (by omega) ?_
  rintro _ hp1 ⟨rfl, hK1⟩
  refine z_st (st' := [.int (r_fpA r (xs (i + 1)))]) rfl ?_
  refine z_aload_n C dL_law_210 rfl 1 rfl ?_
  refine z_aload_n C dL_law_211 rfl 3 rfl ?_
  refine z_iload_n C dL_law_212 rfl 0 rfl ?_
  refine z_iconst (v := 1) C dL_law_213 (by decide) ?_
  refine z_iadd C dL_law_214 ?_
  refine z_casti (y := nI (i + 1)) (nI_add i 1) ?_
  refine z_sld C hX hbl hbb (i := i + 1) (by omega) hL dL_law_215 ?_
  refine z_callV (rest := [.int (r_fpA r (xs (i + 1)))]) C (w5_freePages hK.V hK1 (xs (i + 1))) ml_L_31 kw_X5_freePages hK1.h16 rfl rfl rfl (by simp [Value.category]) dL_law_216 (by decide) (by decide) (by omega) (by omega) ?_
  rintro _ hp2 ⟨rfl, hK2⟩
  refine z_st (st' := [.int (r_fpA r (xs (i + 1))), .int (r_fpA r (xs (i + 1)))]) rfl ?_
  exact z_icmp_eq (tgt := 665) C dL_law_219 (by decide) (fun _ => z_wid (by omega) (by omega) (kk _ _ hK2)) (fun h => absurd rfl h)
set_option maxHeartbeats 4000000 in
set_option maxRecDepth 100000 in
theorem lc_4 {p : Program} {l : Launch} {e : Env} {s : State} {m : MethodId} {args : Array Value} {below : List Frame} {meth : Method} {c : Code} {Q : State → Prop} {G : z_G} {base cells slots : Nat} {hp : List va_E} {b L i : Nat} {xs : Nat → Int32} {r : r_T} (C : z_C p s m args meth c cL_law 4 RL G base) (hX : va_X b L xs s s.heap) (hbl : b < s.heap.size) (hbb : b < base) (hL : L ≤ 1536) (hi : i + 2 < L) (hK : KK G base r r hp) (hc : cells + 2 ≤ room_1.cells) (hs : slots + 68 ≤ room_1.slots)
    (kk : ∀ r' hp', KK G base r' r' hp' → z_R p l e room_1 s m args below meth c Q G base 4 (cells + 2) (slots + 68) 665 [(3, .int (nI i)), (2, .ref (base + 16)), (1, .ref (base + 0)), (0, .ref b)] [] hp') : z_R p l e room_1 s m args below meth c Q G base 4 cells slots 224 [(3, .int (nI i)), (2, .ref (base + 16)), (1, .ref (base + 0)), (0, .ref b)] [] hp := by
  refine z_aload_n C dL_law_224 rfl 2 rfl ?_
  refine z_aload_n C dL_law_225 rfl 3 rfl ?_
  refine z_iload_n C dL_law_226 rfl 0 rfl ?_
  refine z_iconst (v := 1) C dL_law_227 (by decide) ?_
  refine z_iadd C dL_law_228 ?_
  refine z_casti (y := nI (i + 1)) (nI_add i 1) ?_
  refine z_sld C hX hbl hbb (i := i + 1) (by omega) hL dL_law_229 ?_
  refine z_aload_n C dL_law_230 rfl 3 rfl ?_
  refine z_iload_n C dL_law_231 rfl 0 rfl ?_
  refine z_iconst (v := 2) C dL_law_232 (by decide) ?_
  refine z_iadd C dL_law_233 ?_
  refine z_casti (y := nI (i + 2)) (nI_add i 2) ?_
  refine z_sld C hX hbl hbb (i := i + 2) (by omega) hL dL_law_234 ?_
  obtain ⟨nc, h0⟩ := hK.h0
  refine z_callV (rest := []) C (w4_cache hK (xs (i + 1)) (xs (i + 2))) ml_L_32 kw_X4_cache h0 rfl rfl rfl (by simp [Value.category]) dL_law_235 (by decide) (by decide) (by omega) (by omega) ?_
  rintro _ hp1 ⟨rfl, hK1⟩
  refine z_st (st' := [.int (r_chA r (xs (i + 1)) (xs (i + 2)))]) rfl ?_
  refine z_aload_n C dL_law_238 rfl 1 rfl ?_
  refine z_aload_n C dL_law_239 rfl 3 rfl ?_
  refine z_iload_n C dL_law_240 rfl 0 rfl ?_
  refine z_iconst (v := 1) C dL_law_241 (by decide) ?_
  refine z_iadd C dL_law_242 ?_
  refine z_casti (y := nI (i + 1)) (nI_add i 1) ?_
  refine z_sld C hX hbl hbb (i := i + 1) (by omega) hL dL_law_243 ?_
  refine z_aload_n C dL_law_244 rfl 3 rfl ?_
  refine z_iload_n C dL_law_245 rfl 0 rfl ?_
  refine z_iconst (v := 2) C dL_law_246 (by decide) ?_
  refine z_iadd C dL_law_247 ?_
  refine z_casti (y := nI (i + 2)) (nI_add i 2) ?_
  refine z_sld C hX hbl hbb (i := i + 2) (by omega) hL dL_law_248 ?_
  refine z_callV (rest := [.int (r_chA r (xs (i + 1)) (xs (i + 2)))]) C (w5_cache hK.V hK1 (xs (i + 1)) (xs (i + 2))) ml_L_36 kw_X5_cache hK1.h16 rfl rfl rfl (by simp [Value.category]) dL_law_249 (by decide) (by decide) (by omega) (by omega) ?_
  rintro _ hp2 ⟨rfl, hK2⟩
  refine z_st (st' := [.int (r_chA r (xs (i + 1)) (xs (i + 2))), .int (r_chA r (xs (i + 1)) (xs (i + 2)))]) rfl ?_
  exact z_icmp_eq (tgt := 665) C dL_law_252 (by decide) (fun _ => z_wid (by omega) (by omega) (kk _ _ hK2)) (fun h => absurd rfl h)
set_option maxHeartbeats 4000000 in
set_option maxRecDepth 100000 in
theorem lc_5 {p : Program} {l : Launch} {e : Env} {s : State} {m : MethodId} {args : Array Value} {below : List Frame} {meth : Method} {c : Code} {Q : State → Prop} {G : z_G} {base cells slots : Nat} {hp : List va_E} {b L i : Nat} {xs : Nat → Int32} {r : r_T} (C : z_C p s m args meth c cL_law 4 RL G base) (hX : va_X b L xs s s.heap) (hbl : b < s.heap.size) (hbb : b < base) (hL : L ≤ 1536) (hi : i + 2 < L) (hK : KK G base r r hp) (hc : cells + 2 ≤ room_1.cells) (hs : slots + 68 ≤ room_1.slots)
    (kk : ∀ r' hp', KK G base r' r' hp' → z_R p l e room_1 s m args below meth c Q G base 4 (cells + 2) (slots + 68) 665 [(3, .int (nI i)), (2, .ref (base + 16)), (1, .ref (base + 0)), (0, .ref b)] [] hp') : z_R p l e room_1 s m args below meth c Q G base 4 cells slots 257 [(3, .int (nI i)), (2, .ref (base + 16)), (1, .ref (base + 0)), (0, .ref b)] [] hp := by
  refine z_aload_n C dL_law_257 rfl 2 rfl ?_
  refine z_aload_n C dL_law_258 rfl 3 rfl ?_
  refine z_iload_n C dL_law_259 rfl 0 rfl ?_
  refine z_iconst (v := 1) C dL_law_260 (by decide) ?_
  refine z_iadd C dL_law_261 ?_
  refine z_casti (y := nI (i + 1)) (nI_add i 1) ?_
  refine z_sld C hX hbl hbb (i := i + 1) (by omega) hL dL_law_262 ?_
  obtain ⟨nc, h0⟩ := hK.h0
  refine z_callV (rest := []) C (w4_take hK (xs (i + 1))) ml_L_37 kw_X4_take h0 rfl rfl rfl (by simp [Value.category]) dL_law_263 (by decide) (by decide) (by omega) (by omega) ?_
  rintro _ hp1 ⟨rfl, hK1⟩
  refine z_st (st' := [.int (a_tk r (xs (i + 1)))]) rfl ?_
  refine z_aload_n C dL_law_266 rfl 1 rfl ?_
  refine z_aload_n C dL_law_267 rfl 3 rfl ?_
  refine z_iload_n C dL_law_268 rfl 0 rfl ?_
  refine z_iconst (v := 1) C dL_law_269 (by decide) ?_
  refine z_iadd C dL_law_270 ?_
  refine z_casti (y := nI (i + 1)) (nI_add i 1) ?_
  refine z_sld C hX hbl hbb (i := i + 1) (by omega) hL dL_law_271 ?_
  refine z_callV (rest := [.int (a_tk r (xs (i + 1)))]) C (w5_take hK.V hK1 (xs (i + 1))) ml_L_40 kw_X5_take hK1.h16 rfl rfl rfl (by simp [Value.category]) dL_law_272 (by decide) (by decide) (by omega) (by omega) ?_
  rintro _ hp2 ⟨rfl, hK2⟩
  refine z_st (st' := [.int (a_tk r (xs (i + 1))), .int (a_tk r (xs (i + 1)))]) rfl ?_
  exact z_icmp_eq (tgt := 665) C dL_law_275 (by decide) (fun _ => z_wid (by omega) (by omega) (kk _ _ hK2)) (fun h => absurd rfl h)
set_option maxHeartbeats 4000000 in
set_option maxRecDepth 100000 in
theorem lc_6 {p : Program} {l : Launch} {e : Env} {s : State} {m : MethodId} {args : Array Value} {below : List Frame} {meth : Method} {c : Code} {Q : State → Prop} {G : z_G} {base cells slots : Nat} {hp : List va_E} {b L i : Nat} {xs : Nat → Int32} {r : r_T} (C : z_C p s m args meth c cL_law 4 RL G base) (hX : va_X b L xs s s.heap) (hbl : b < s.heap.size) (hbb : b < base) (hL : L ≤ 1536) (hi : i + 2 < L) (hK : KK G base r r hp) (hc : cells + 2 ≤ room_1.cells) (hs : slots + 68 ≤ room_1.slots)
    (kk : ∀ r' hp', KK G base r' r' hp' → z_R p l e room_1 s m args below meth c Q G base 4 (cells + 2) (slots + 68) 665 [(3, .int (nI i)), (2, .ref (base + 16)), (1, .ref (base + 0)), (0, .ref b)] [] hp') : z_R p l e room_1 s m args below meth c Q G base 4 cells slots 280 [(3, .int (nI i)), (2, .ref (base + 16)), (1, .ref (base + 0)), (0, .ref b)] [] hp := by
  refine z_aload_n C dL_law_280 rfl 2 rfl ?_
  refine z_aload_n C dL_law_281 rfl 3 rfl ?_
  refine z_iload_n C dL_law_282 rfl 0 rfl ?_
  refine z_iconst (v := 1) C dL_law_283 (by decide) ?_
  refine z_iadd C dL_law_284 ?_
  refine z_casti (y := nI (i + 1)) (nI_add i 1) ?_
  refine z_sld C hX hbl hbb (i := i + 1) (by omega) hL dL_law_285 ?_
  refine z_aload_n C dL_law_286 rfl 3 rfl ?_
  refine z_iload_n C dL_law_287 rfl 0 rfl ?_
  refine z_iconst (v := 2) C dL_law_288 (by decide) ?_
  refine z_iadd C dL_law_289 ?_
  refine z_casti (y := nI (i + 2)) (nI_add i 2) ?_
  refine z_sld C hX hbl hbb (i := i + 2) (by omega) hL dL_law_290 ?_
  obtain ⟨nc, h0⟩ := hK.h0
  refine z_callV (rest := []) C (w4_give hK (xs (i + 1)) (xs (i + 2))) ml_L_41 kw_X4_give h0 rfl rfl rfl (by simp [Value.category]) dL_law_291 (by decide) (by decide) (by omega) (by omega) ?_
  rintro _ hp1 ⟨rfl, hK1⟩
  refine z_st (st' := [.int (r_gvA r (xs (i + 1)) (xs (i + 2)))]) rfl ?_
  refine z_aload_n C dL_law_294 rfl 1 rfl ?_
  refine z_aload_n C dL_law_295 rfl 3 rfl ?_
  refine z_iload_n C dL_law_296 rfl 0 rfl ?_
  refine z_iconst (v := 1) C dL_law_297 (by decide) ?_
  refine z_iadd C dL_law_298 ?_
  refine z_casti (y := nI (i + 1)) (nI_add i 1) ?_
  refine z_sld C hX hbl hbb (i := i + 1) (by omega) hL dL_law_299 ?_
  refine z_aload_n C dL_law_300 rfl 3 rfl ?_
  refine z_iload_n C dL_law_301 rfl 0 rfl ?_
  refine z_iconst (v := 2) C dL_law_302 (by decide) ?_
  refine z_iadd C dL_law_303 ?_
  refine z_casti (y := nI (i + 2)) (nI_add i 2) ?_
  refine z_sld C hX hbl hbb (i := i + 2) (by omega) hL dL_law_304 ?_
  refine z_callV (rest := [.int (r_gvA r (xs (i + 1)) (xs (i + 2)))]) C (w5_give hK.V hK1 (xs (i + 1)) (xs (i + 2))) ml_L_44 kw_X5_give hK1.h16 rfl rfl rfl (by simp [Value.category]) dL_law_305 (by decide) (by decide) (by omega) (by omega) ?_
  rintro _ hp2 ⟨rfl, hK2⟩
  refine z_st (st' := [.int (r_gvA r (xs (i + 1)) (xs (i + 2))), .int (r_gvA r (xs (i + 1)) (xs (i + 2)))]) rfl ?_
  exact z_icmp_eq (tgt := 665) C dL_law_308 (by decide) (fun _ => z_wid (by omega) (by omega) (kk _ _ hK2)) (fun h => absurd rfl h)
set_option maxHeartbeats 4000000 in
set_option maxRecDepth 100000 in
theorem lc_7 {p : Program} {l : Launch} {e : Env} {s : State} {m : MethodId} {args : Array Value} {below : List Frame} {meth : Method} {c : Code} {Q : State → Prop} {G : z_G} {base cells slots : Nat} {hp : List va_E} {b L i : Nat} {xs : Nat → Int32} {r : r_T} (C : z_C p s m args meth c cL_law 4 RL G base) (hX : va_X b L xs s s.heap) (hbl : b < s.heap.size) (hbb : b < base) (hL : L ≤ 1536) (hi : i + 2 < L) (hK : KK G base r r hp) (hc : cells + 2 ≤ room_1.cells) (hs : slots + 68 ≤ room_1.slots)
    (kk : ∀ r' hp', KK G base r' r' hp' → z_R p l e room_1 s m args below meth c Q G base 4 (cells + 2) (slots + 68) 665 [(3, .int (nI i)), (2, .ref (base + 16)), (1, .ref (base + 0)), (0, .ref b)] [] hp') : z_R p l e room_1 s m args below meth c Q G base 4 cells slots 313 [(3, .int (nI i)), (2, .ref (base + 16)), (1, .ref (base + 0)), (0, .ref b)] [] hp := by
  refine z_aload_n C dL_law_313 rfl 2 rfl ?_
  refine z_aload_n C dL_law_314 rfl 3 rfl ?_
  refine z_iload_n C dL_law_315 rfl 0 rfl ?_
  refine z_iconst (v := 1) C dL_law_316 (by decide) ?_
  refine z_iadd C dL_law_317 ?_
  refine z_casti (y := nI (i + 1)) (nI_add i 1) ?_
  refine z_sld C hX hbl hbb (i := i + 1) (by omega) hL dL_law_318 ?_
  obtain ⟨nc, h0⟩ := hK.h0
  refine z_callV (rest := []) C (w4_shrink hK (xs (i + 1))) ml_L_45 kw_X4_shrink h0 rfl rfl rfl (by simp [Value.category]) dL_law_319 (by decide) (by decide) (by omega) (by omega) ?_
  rintro _ hp1 ⟨rfl, hK1⟩
  refine z_st (st' := [.int (r_shA r (xs (i + 1)))]) rfl ?_
  refine z_aload_n C dL_law_322 rfl 1 rfl ?_
  refine z_aload_n C dL_law_323 rfl 3 rfl ?_
  refine z_iload_n C dL_law_324 rfl 0 rfl ?_
  refine z_iconst (v := 1) C dL_law_325 (by decide) ?_
  refine z_iadd C dL_law_326 ?_
  refine z_casti (y := nI (i + 1)) (nI_add i 1) ?_
  refine z_sld C hX hbl hbb (i := i + 1) (by omega) hL dL_law_327 ?_
  refine z_callV (rest := [.int (r_shA r (xs (i + 1)))]) C (w5_shrink hK.V hK1 (xs (i + 1))) ml_L_48 kw_X5_shrink hK1.h16 rfl rfl rfl (by simp [Value.category]) dL_law_328 (by decide) (by decide) (by omega) (by omega) ?_
  rintro _ hp2 ⟨rfl, hK2⟩
  refine z_st (st' := [.int (r_shA r (xs (i + 1))), .int (r_shA r (xs (i + 1)))]) rfl ?_
  exact z_icmp_eq (tgt := 665) C dL_law_331 (by decide) (fun _ => z_wid (by omega) (by omega) (kk _ _ hK2)) (fun h => absurd rfl h)
set_option maxHeartbeats 4000000 in
set_option maxRecDepth 100000 in
theorem lc_8 {p : Program} {l : Launch} {e : Env} {s : State} {m : MethodId} {args : Array Value} {below : List Frame} {meth : Method} {c : Code} {Q : State → Prop} {G : z_G} {base cells slots : Nat} {hp : List va_E} {b L i : Nat} {xs : Nat → Int32} {r : r_T} (C : z_C p s m args meth c cL_law 4 RL G base) (hX : va_X b L xs s s.heap) (hbl : b < s.heap.size) (hbb : b < base) (hL : L ≤ 1536) (hi : i + 2 < L) (hK : KK G base r r hp) (hc : cells + 2 ≤ room_1.cells) (hs : slots + 68 ≤ room_1.slots)
    (kk : ∀ r' hp', KK G base r' r' hp' → z_R p l e room_1 s m args below meth c Q G base 4 (cells + 2) (slots + 68) 665 [(3, .int (nI i)), (2, .ref (base + 16)), (1, .ref (base + 0)), (0, .ref b)] [] hp') : z_R p l e room_1 s m args below meth c Q G base 4 cells slots 336 [(3, .int (nI i)), (2, .ref (base + 16)), (1, .ref (base + 0)), (0, .ref b)] [] hp := by
  refine z_aload_n C dL_law_336 rfl 2 rfl ?_
  refine z_aload_n C dL_law_337 rfl 3 rfl ?_
  refine z_iload_n C dL_law_338 rfl 0 rfl ?_
  refine z_iconst (v := 1) C dL_law_339 (by decide) ?_
  refine z_iadd C dL_law_340 ?_
  refine z_casti (y := nI (i + 1)) (nI_add i 1) ?_
  refine z_sld C hX hbl hbb (i := i + 1) (by omega) hL dL_law_341 ?_
  obtain ⟨nc, h0⟩ := hK.h0
  refine z_callV (rest := []) C (w4_alloc hK (xs (i + 1))) ml_L_49 kw_X4_alloc h0 rfl rfl rfl (by simp [Value.category]) dL_law_342 (by decide) (by decide) (by omega) (by omega) ?_
  rintro _ hp1 ⟨rfl, hK1⟩
  refine z_st (st' := [.int (a_al r (xs (i + 1)))]) rfl ?_
  refine z_aload_n C dL_law_345 rfl 1 rfl ?_
  refine z_aload_n C dL_law_346 rfl 3 rfl ?_
  refine z_iload_n C dL_law_347 rfl 0 rfl ?_
  refine z_iconst (v := 1) C dL_law_348 (by decide) ?_
  refine z_iadd C dL_law_349 ?_
  refine z_casti (y := nI (i + 1)) (nI_add i 1) ?_
  refine z_sld C hX hbl hbb (i := i + 1) (by omega) hL dL_law_350 ?_
  refine z_callV (rest := [.int (a_al r (xs (i + 1)))]) C (w5_alloc hK.V hK1 (xs (i + 1))) ml_L_52 kw_X5_alloc hK1.h16 rfl rfl rfl (by simp [Value.category]) dL_law_351 (by decide) (by decide) (by omega) (by omega) ?_
  rintro _ hp2 ⟨rfl, hK2⟩
  refine z_st (st' := [.int (a_al r (xs (i + 1))), .int (a_al r (xs (i + 1)))]) rfl ?_
  exact z_icmp_eq (tgt := 665) C dL_law_354 (by decide) (fun _ => z_wid (by omega) (by omega) (kk _ _ hK2)) (fun h => absurd rfl h)
set_option maxHeartbeats 4000000 in
set_option maxRecDepth 100000 in
theorem lc_9 {p : Program} {l : Launch} {e : Env} {s : State} {m : MethodId} {args : Array Value} {below : List Frame} {meth : Method} {c : Code} {Q : State → Prop} {G : z_G} {base cells slots : Nat} {hp : List va_E} {b L i : Nat} {xs : Nat → Int32} {r : r_T} (C : z_C p s m args meth c cL_law 4 RL G base) (hX : va_X b L xs s s.heap) (hbl : b < s.heap.size) (hbb : b < base) (hL : L ≤ 1536) (hi : i + 2 < L) (hK : KK G base r r hp) (hc : cells + 2 ≤ room_1.cells) (hs : slots + 68 ≤ room_1.slots)
    (kk : ∀ r' hp', KK G base r' r' hp' → z_R p l e room_1 s m args below meth c Q G base 4 (cells + 2) (slots + 68) 665 [(3, .int (nI i)), (2, .ref (base + 16)), (1, .ref (base + 0)), (0, .ref b)] [] hp') : z_R p l e room_1 s m args below meth c Q G base 4 cells slots 359 [(3, .int (nI i)), (2, .ref (base + 16)), (1, .ref (base + 0)), (0, .ref b)] [] hp := by
  refine z_aload_n C dL_law_359 rfl 2 rfl ?_
  refine z_aload_n C dL_law_360 rfl 3 rfl ?_
  refine z_iload_n C dL_law_361 rfl 0 rfl ?_
  refine z_iconst (v := 1) C dL_law_362 (by decide) ?_
  refine z_iadd C dL_law_363 ?_
  refine z_casti (y := nI (i + 1)) (nI_add i 1) ?_
  refine z_sld C hX hbl hbb (i := i + 1) (by omega) hL dL_law_364 ?_
  obtain ⟨nc, h0⟩ := hK.h0
  refine z_callV (rest := []) C (w4_free hK (xs (i + 1))) ml_L_53 kw_X4_free h0 rfl rfl rfl (by simp [Value.category]) dL_law_365 (by decide) (by decide) (by omega) (by omega) ?_
  rintro _ hp1 ⟨rfl, hK1⟩
  refine z_st (st' := [.int (r_szA r (xs (i + 1)))]) rfl ?_
  refine z_aload_n C dL_law_368 rfl 1 rfl ?_
  refine z_aload_n C dL_law_369 rfl 3 rfl ?_
  refine z_iload_n C dL_law_370 rfl 0 rfl ?_
  refine z_iconst (v := 1) C dL_law_371 (by decide) ?_
  refine z_iadd C dL_law_372 ?_
  refine z_casti (y := nI (i + 1)) (nI_add i 1) ?_
  refine z_sld C hX hbl hbb (i := i + 1) (by omega) hL dL_law_373 ?_
  refine z_callV (rest := [.int (r_szA r (xs (i + 1)))]) C (w5_free hK.V hK1 (xs (i + 1))) ml_L_56 kw_X5_free hK1.h16 rfl rfl rfl (by simp [Value.category]) dL_law_374 (by decide) (by decide) (by omega) (by omega) ?_
  rintro _ hp2 ⟨rfl, hK2⟩
  refine z_st (st' := [.int (r_szA r (xs (i + 1))), .int (r_szA r (xs (i + 1)))]) rfl ?_
  exact z_icmp_eq (tgt := 665) C dL_law_377 (by decide) (fun _ => z_wid (by omega) (by omega) (kk _ _ hK2)) (fun h => absurd rfl h)
set_option maxHeartbeats 4000000 in
set_option maxRecDepth 100000 in
theorem lc_10 {p : Program} {l : Launch} {e : Env} {s : State} {m : MethodId} {args : Array Value} {below : List Frame} {meth : Method} {c : Code} {Q : State → Prop} {G : z_G} {base cells slots : Nat} {hp : List va_E} {b L i : Nat} {xs : Nat → Int32} {r : r_T} (C : z_C p s m args meth c cL_law 4 RL G base) (hX : va_X b L xs s s.heap) (hbl : b < s.heap.size) (hbb : b < base) (hL : L ≤ 1536) (hi : i + 2 < L) (hK : KK G base r r hp) (hc : cells + 2 ≤ room_1.cells) (hs : slots + 68 ≤ room_1.slots)
    (kk : ∀ r' hp', KK G base r' r' hp' → z_R p l e room_1 s m args below meth c Q G base 4 (cells + 2) (slots + 68) 665 [(3, .int (nI i)), (2, .ref (base + 16)), (1, .ref (base + 0)), (0, .ref b)] [] hp') : z_R p l e room_1 s m args below meth c Q G base 4 cells slots 382 [(3, .int (nI i)), (2, .ref (base + 16)), (1, .ref (base + 0)), (0, .ref b)] [] hp := by
  refine z_aload_n C dL_law_382 rfl 2 rfl ?_
  refine z_aload_n C dL_law_383 rfl 3 rfl ?_
  refine z_iload_n C dL_law_384 rfl 0 rfl ?_
  refine z_iconst (v := 1) C dL_law_385 (by decide) ?_
  refine z_iadd C dL_law_386 ?_
  refine z_casti (y := nI (i + 1)) (nI_add i 1) ?_
  refine z_sld C hX hbl hbb (i := i + 1) (by omega) hL dL_law_387 ?_
  refine z_aload_n C dL_law_388 rfl 3 rfl ?_
  refine z_iload_n C dL_law_389 rfl 0 rfl ?_
  refine z_iconst (v := 2) C dL_law_390 (by decide) ?_
  refine z_iadd C dL_law_391 ?_
  refine z_casti (y := nI (i + 2)) (nI_add i 2) ?_
  refine z_sld C hX hbl hbb (i := i + 2) (by omega) hL dL_law_392 ?_
  obtain ⟨nc, h0⟩ := hK.h0
  refine z_callV (rest := []) C (w4_resize hK (xs (i + 1)) (xs (i + 2))) ml_L_57 kw_X4_resize h0 rfl rfl rfl (by simp [Value.category]) dL_law_393 (by decide) (by decide) (by omega) (by omega) ?_
  rintro _ hp1 ⟨rfl, hK1⟩
  refine z_st (st' := [.int (r_rsA r (xs (i + 1)) (xs (i + 2)))]) rfl ?_
  refine z_aload_n C dL_law_396 rfl 1 rfl ?_
  refine z_aload_n C dL_law_397 rfl 3 rfl ?_
  refine z_iload_n C dL_law_398 rfl 0 rfl ?_
  refine z_iconst (v := 1) C dL_law_399 (by decide) ?_
  refine z_iadd C dL_law_400 ?_
  refine z_casti (y := nI (i + 1)) (nI_add i 1) ?_
  refine z_sld C hX hbl hbb (i := i + 1) (by omega) hL dL_law_401 ?_
  refine z_aload_n C dL_law_402 rfl 3 rfl ?_
  refine z_iload_n C dL_law_403 rfl 0 rfl ?_
  refine z_iconst (v := 2) C dL_law_404 (by decide) ?_
  refine z_iadd C dL_law_405 ?_
  refine z_casti (y := nI (i + 2)) (nI_add i 2) ?_
  refine z_sld C hX hbl hbb (i := i + 2) (by omega) hL dL_law_406 ?_
  refine z_callV (rest := [.int (r_rsA r (xs (i + 1)) (xs (i + 2)))]) C (w5_resize hK.V hK1 (xs (i + 1)) (xs (i + 2))) ml_L_60 kw_X5_resize hK1.h16 rfl rfl rfl (by simp [Value.category]) dL_law_407 (by decide) (by decide) (by omega) (by omega) ?_
  rintro _ hp2 ⟨rfl, hK2⟩
  refine z_st (st' := [.int (r_rsA r (xs (i + 1)) (xs (i + 2))), .int (r_rsA r (xs (i + 1)) (xs (i + 2)))]) rfl ?_
  exact z_icmp_eq (tgt := 665) C dL_law_410 (by decide) (fun _ => z_wid (by omega) (by omega) (kk _ _ hK2)) (fun h => absurd rfl h)
set_option maxHeartbeats 4000000 in
set_option maxRecDepth 100000 in
theorem lc_11 {p : Program} {l : Launch} {e : Env} {s : State} {m : MethodId} {args : Array Value} {below : List Frame} {meth : Method} {c : Code} {Q : State → Prop} {G : z_G} {base cells slots : Nat} {hp : List va_E} {b L i : Nat} {xs : Nat → Int32} {r : r_T} (C : z_C p s m args meth c cL_law 4 RL G base) (hX : va_X b L xs s s.heap) (hbl : b < s.heap.size) (hbb : b < base) (hL : L ≤ 1536) (hi : i + 2 < L) (hK : KK G base r r hp) (hc : cells + 2 ≤ room_1.cells) (hs : slots + 68 ≤ room_1.slots)
    (kk : ∀ r' hp', KK G base r' r' hp' → z_R p l e room_1 s m args below meth c Q G base 4 (cells + 2) (slots + 68) 665 [(3, .int (nI i)), (2, .ref (base + 16)), (1, .ref (base + 0)), (0, .ref b)] [] hp') : z_R p l e room_1 s m args below meth c Q G base 4 cells slots 415 [(3, .int (nI i)), (2, .ref (base + 16)), (1, .ref (base + 0)), (0, .ref b)] [] hp := by
  refine z_aload_n C dL_law_415 rfl 2 rfl ?_
  refine z_aload_n C dL_law_416 rfl 3 rfl ?_
  refine z_iload_n C dL_law_417 rfl 0 rfl ?_
  refine z_iconst (v := 1) C dL_law_418 (by decide) ?_
  refine z_iadd C dL_law_419 ?_
  refine z_casti (y := nI (i + 1)) (nI_add i 1) ?_
  refine z_sld C hX hbl hbb (i := i + 1) (by omega) hL dL_law_420 ?_
  obtain ⟨nc, h0⟩ := hK.h0
  refine z_callV (rest := []) C (w4_size hK (xs (i + 1))) ml_L_61 kw_X4_size h0 rfl rfl rfl (by simp [Value.category]) dL_law_421 (by decide) (by decide) (by omega) (by omega) ?_
  rintro _ hp1 ⟨rfl, hK1⟩
  refine z_st (st' := [.int (r_szA r (xs (i + 1)))]) rfl ?_
  refine z_aload_n C dL_law_424 rfl 1 rfl ?_
  refine z_aload_n C dL_law_425 rfl 3 rfl ?_
  refine z_iload_n C dL_law_426 rfl 0 rfl ?_
  refine z_iconst (v := 1) C dL_law_427 (by decide) ?_
  refine z_iadd C dL_law_428 ?_
  refine z_casti (y := nI (i + 1)) (nI_add i 1) ?_
  refine z_sld C hX hbl hbb (i := i + 1) (by omega) hL dL_law_429 ?_
  refine z_callV (rest := [.int (r_szA r (xs (i + 1)))]) C (w5_size hK.V hK1 (xs (i + 1))) ml_L_64 kw_X5_size hK1.h16 rfl rfl rfl (by simp [Value.category]) dL_law_430 (by decide) (by decide) (by omega) (by omega) ?_
  rintro _ hp2 ⟨rfl, hK2⟩
  refine z_st (st' := [.int (r_szA r (xs (i + 1))), .int (r_szA r (xs (i + 1)))]) rfl ?_
  exact z_icmp_eq (tgt := 665) C dL_law_433 (by decide) (fun _ => z_wid (by omega) (by omega) (kk _ _ hK2)) (fun h => absurd rfl h)
set_option maxHeartbeats 4000000 in
set_option maxRecDepth 100000 in
theorem lc_12 {p : Program} {l : Launch} {e : Env} {s : State} {m : MethodId} {args : Array Value} {below : List Frame} {meth : Method} {c : Code} {Q : State → Prop} {G : z_G} {base cells slots : Nat} {hp : List va_E} {b L i : Nat} {xs : Nat → Int32} {r : r_T} (C : z_C p s m args meth c cL_law 4 RL G base) (hX : va_X b L xs s s.heap) (hbl : b < s.heap.size) (hbb : b < base) (hL : L ≤ 1536) (hi : i + 2 < L) (hK : KK G base r r hp) (hc : cells + 2 ≤ room_1.cells) (hs : slots + 68 ≤ room_1.slots)
    (kk : ∀ r' hp', KK G base r' r' hp' → z_R p l e room_1 s m args below meth c Q G base 4 (cells + 2) (slots + 68) 665 [(3, .int (nI i)), (2, .ref (base + 16)), (1, .ref (base + 0)), (0, .ref b)] [] hp') : z_R p l e room_1 s m args below meth c Q G base 4 cells slots 438 [(3, .int (nI i)), (2, .ref (base + 16)), (1, .ref (base + 0)), (0, .ref b)] [] hp := by
  refine z_aload_n C dL_law_438 rfl 2 rfl ?_
  refine z_aload_n C dL_law_439 rfl 3 rfl ?_
  refine z_iload_n C dL_law_440 rfl 0 rfl ?_
  refine z_iconst (v := 1) C dL_law_441 (by decide) ?_
  refine z_iadd C dL_law_442 ?_
  refine z_casti (y := nI (i + 1)) (nI_add i 1) ?_
  refine z_sld C hX hbl hbb (i := i + 1) (by omega) hL dL_law_443 ?_
  obtain ⟨nc, h0⟩ := hK.h0
  refine z_callV (rest := []) C (w4_read hK (xs (i + 1))) ml_L_65 kw_X4_read h0 rfl rfl rfl (by simp [Value.category]) dL_law_444 (by decide) (by decide) (by omega) (by omega) ?_
  rintro _ hp1 ⟨rfl, hK1⟩
  refine z_st (st' := [.int (r_rdA r (xs (i + 1)))]) rfl ?_
  refine z_aload_n C dL_law_447 rfl 1 rfl ?_
  refine z_aload_n C dL_law_448 rfl 3 rfl ?_
  refine z_iload_n C dL_law_449 rfl 0 rfl ?_
  refine z_iconst (v := 1) C dL_law_450 (by decide) ?_
  refine z_iadd C dL_law_451 ?_
  refine z_casti (y := nI (i + 1)) (nI_add i 1) ?_
  refine z_sld C hX hbl hbb (i := i + 1) (by omega) hL dL_law_452 ?_
  refine z_callV (rest := [.int (r_rdA r (xs (i + 1)))]) C (w5_read hK.V hK1 (xs (i + 1))) ml_L_68 kw_X5_read hK1.h16 rfl rfl rfl (by simp [Value.category]) dL_law_453 (by decide) (by decide) (by omega) (by omega) ?_
  rintro _ hp2 ⟨rfl, hK2⟩
  refine z_st (st' := [.int (r_rdA r (xs (i + 1))), .int (r_rdA r (xs (i + 1)))]) rfl ?_
  exact z_icmp_eq (tgt := 665) C dL_law_456 (by decide) (fun _ => z_wid (by omega) (by omega) (kk _ _ hK2)) (fun h => absurd rfl h)
set_option maxHeartbeats 4000000 in
set_option maxRecDepth 100000 in
theorem lc_13 {p : Program} {l : Launch} {e : Env} {s : State} {m : MethodId} {args : Array Value} {below : List Frame} {meth : Method} {c : Code} {Q : State → Prop} {G : z_G} {base cells slots : Nat} {hp : List va_E} {b L i : Nat} {xs : Nat → Int32} {r : r_T} (C : z_C p s m args meth c cL_law 4 RL G base) (hX : va_X b L xs s s.heap) (hbl : b < s.heap.size) (hbb : b < base) (hL : L ≤ 1536) (hi : i + 2 < L) (hK : KK G base r r hp) (hc : cells + 2 ≤ room_1.cells) (hs : slots + 68 ≤ room_1.slots)
    (kk : ∀ r' hp', KK G base r' r' hp' → z_R p l e room_1 s m args below meth c Q G base 4 (cells + 2) (slots + 68) 665 [(3, .int (nI i)), (2, .ref (base + 16)), (1, .ref (base + 0)), (0, .ref b)] [] hp') : z_R p l e room_1 s m args below meth c Q G base 4 cells slots 461 [(3, .int (nI i)), (2, .ref (base + 16)), (1, .ref (base + 0)), (0, .ref b)] [] hp := by
  refine z_aload_n C dL_law_461 rfl 2 rfl ?_
  refine z_aload_n C dL_law_462 rfl 3 rfl ?_
  refine z_iload_n C dL_law_463 rfl 0 rfl ?_
  refine z_iconst (v := 1) C dL_law_464 (by decide) ?_
  refine z_iadd C dL_law_465 ?_
  refine z_casti (y := nI (i + 1)) (nI_add i 1) ?_
  refine z_sld C hX hbl hbb (i := i + 1) (by omega) hL dL_law_466 ?_
  refine z_aload_n C dL_law_467 rfl 3 rfl ?_
  refine z_iload_n C dL_law_468 rfl 0 rfl ?_
  refine z_iconst (v := 2) C dL_law_469 (by decide) ?_
  refine z_iadd C dL_law_470 ?_
  refine z_casti (y := nI (i + 2)) (nI_add i 2) ?_
  refine z_sld C hX hbl hbb (i := i + 2) (by omega) hL dL_law_471 ?_
  obtain ⟨nc, h0⟩ := hK.h0
  refine z_callV (rest := []) C (w4_write hK (xs (i + 1)) (xs (i + 2))) ml_L_69 kw_X4_write h0 rfl rfl rfl (by simp [Value.category]) dL_law_472 (by decide) (by decide) (by omega) (by omega) ?_
  rintro _ hp1 ⟨rfl, hK1⟩
  refine z_st (st' := [.int (r_rdA r (xs (i + 1)))]) rfl ?_
  refine z_aload_n C dL_law_475 rfl 1 rfl ?_
  refine z_aload_n C dL_law_476 rfl 3 rfl ?_
  refine z_iload_n C dL_law_477 rfl 0 rfl ?_
  refine z_iconst (v := 1) C dL_law_478 (by decide) ?_
  refine z_iadd C dL_law_479 ?_
  refine z_casti (y := nI (i + 1)) (nI_add i 1) ?_
  refine z_sld C hX hbl hbb (i := i + 1) (by omega) hL dL_law_480 ?_
  refine z_aload_n C dL_law_481 rfl 3 rfl ?_
  refine z_iload_n C dL_law_482 rfl 0 rfl ?_
  refine z_iconst (v := 2) C dL_law_483 (by decide) ?_
  refine z_iadd C dL_law_484 ?_
  refine z_casti (y := nI (i + 2)) (nI_add i 2) ?_
  refine z_sld C hX hbl hbb (i := i + 2) (by omega) hL dL_law_485 ?_
  refine z_callV (rest := [.int (r_rdA r (xs (i + 1)))]) C (w5_write hK.V hK1 (xs (i + 1)) (xs (i + 2))) ml_L_72 kw_X5_write hK1.h16 rfl rfl rfl (by simp [Value.category]) dL_law_486 (by decide) (by decide) (by omega) (by omega) ?_
  rintro _ hp2 ⟨rfl, hK2⟩
  refine z_st (st' := [.int (r_rdA r (xs (i + 1))), .int (r_rdA r (xs (i + 1)))]) rfl ?_
  exact z_icmp_eq (tgt := 665) C dL_law_489 (by decide) (fun _ => z_wid (by omega) (by omega) (kk _ _ hK2)) (fun h => absurd rfl h)
set_option maxHeartbeats 4000000 in
set_option maxRecDepth 100000 in
theorem lc_14 {p : Program} {l : Launch} {e : Env} {s : State} {m : MethodId} {args : Array Value} {below : List Frame} {meth : Method} {c : Code} {Q : State → Prop} {G : z_G} {base cells slots : Nat} {hp : List va_E} {b L i : Nat} {xs : Nat → Int32} {r : r_T} (C : z_C p s m args meth c cL_law 4 RL G base) (hX : va_X b L xs s s.heap) (hbl : b < s.heap.size) (hbb : b < base) (hL : L ≤ 1536) (hi : i + 2 < L) (hK : KK G base r r hp) (hc : cells + 2 ≤ room_1.cells) (hs : slots + 68 ≤ room_1.slots)
    (kk : ∀ r' hp', KK G base r' r' hp' → z_R p l e room_1 s m args below meth c Q G base 4 (cells + 2) (slots + 68) 665 [(3, .int (nI i)), (2, .ref (base + 16)), (1, .ref (base + 0)), (0, .ref b)] [] hp') : z_R p l e room_1 s m args below meth c Q G base 4 cells slots 494 [(3, .int (nI i)), (2, .ref (base + 16)), (1, .ref (base + 0)), (0, .ref b)] [] hp := by
  refine z_aload_n C dL_law_494 rfl 2 rfl ?_
  refine z_aload_n C dL_law_495 rfl 3 rfl ?_
  refine z_iload_n C dL_law_496 rfl 0 rfl ?_
  refine z_iconst (v := 1) C dL_law_497 (by decide) ?_
  refine z_iadd C dL_law_498 ?_
  refine z_casti (y := nI (i + 1)) (nI_add i 1) ?_
  refine z_sld C hX hbl hbb (i := i + 1) (by omega) hL dL_law_499 ?_
  obtain ⟨nc, h0⟩ := hK.h0
  refine z_callV (rest := []) C (w4_arm hK (xs (i + 1))) ml_L_73 kw_X4_arm h0 rfl rfl rfl (by simp [Value.category]) dL_law_500 (by decide) (by decide) (by omega) (by omega) ?_
  rintro _ hp1 ⟨rfl, hK1⟩
  refine z_st (st' := [.int (bI (decide (0 ≤ (xs (i + 1)) ∧ (xs (i + 1)) ≤ 100)))]) rfl ?_
  refine z_aload_n C dL_law_503 rfl 1 rfl ?_
  refine z_aload_n C dL_law_504 rfl 3 rfl ?_
  refine z_iload_n C dL_law_505 rfl 0 rfl ?_
  refine z_iconst (v := 1) C dL_law_506 (by decide) ?_
  refine z_iadd C dL_law_507 ?_
  refine z_casti (y := nI (i + 1)) (nI_add i 1) ?_
  refine z_sld C hX hbl hbb (i := i + 1) (by omega) hL dL_law_508 ?_
  refine z_callV (rest := [.int (bI (decide (0 ≤ (xs (i + 1)) ∧ (xs (i + 1)) ≤ 100)))]) C (w5_arm hK.V hK1 (xs (i + 1))) ml_L_77 kw_X5_arm hK1.h16 rfl rfl rfl (by simp [Value.category]) dL_law_509 (by decide) (by decide) (by omega) (by omega) ?_
  rintro _ hp2 ⟨rfl, hK2⟩
  refine z_st (st' := [.int (bI (decide (0 ≤ (xs (i + 1)) ∧ (xs (i + 1)) ≤ 100))), .int (bI (decide (0 ≤ (xs (i + 1)) ∧ (xs (i + 1)) ≤ 100)))]) rfl ?_
  exact z_icmp_eq (tgt := 665) C dL_law_512 (by decide) (fun _ => z_wid (by omega) (by omega) (kk _ _ hK2)) (fun h => absurd rfl h)
set_option maxHeartbeats 4000000 in
set_option maxRecDepth 100000 in
theorem lc_15 {p : Program} {l : Launch} {e : Env} {s : State} {m : MethodId} {args : Array Value} {below : List Frame} {meth : Method} {c : Code} {Q : State → Prop} {G : z_G} {base cells slots : Nat} {hp : List va_E} {b L i : Nat} {xs : Nat → Int32} {r : r_T} (C : z_C p s m args meth c cL_law 4 RL G base) (hX : va_X b L xs s s.heap) (hbl : b < s.heap.size) (hbb : b < base) (hL : L ≤ 1536) (hi : i + 2 < L) (hK : KK G base r r hp) (hc : cells + 2 ≤ room_1.cells) (hs : slots + 68 ≤ room_1.slots)
    (kk : ∀ r' hp', KK G base r' r' hp' → z_R p l e room_1 s m args below meth c Q G base 4 (cells + 2) (slots + 68) 665 [(3, .int (nI i)), (2, .ref (base + 16)), (1, .ref (base + 0)), (0, .ref b)] [] hp') : z_R p l e room_1 s m args below meth c Q G base 4 cells slots 517 [(3, .int (nI i)), (2, .ref (base + 16)), (1, .ref (base + 0)), (0, .ref b)] [] hp := by
  refine z_aload_n C dL_law_517 rfl 2 rfl ?_
  refine z_aload_n C dL_law_518 rfl 3 rfl ?_
  refine z_iload_n C dL_law_519 rfl 0 rfl ?_
  refine z_iconst (v := 1) C dL_law_520 (by decide) ?_
  refine z_iadd C dL_law_521 ?_
  refine z_casti (y := nI (i + 1)) (nI_add i 1) ?_
  refine z_sld C hX hbl hbb (i := i + 1) (by omega) hL dL_law_522 ?_
  obtain ⟨nc, h0⟩ := hK.h0
  refine z_callV (rest := []) C (w4_ofPage hK (xs (i + 1))) ml_L_78 kw_X4_ofPage h0 rfl rfl rfl (by simp [Value.category]) dL_law_523 (by decide) (by decide) (by omega) (by omega) ?_
  rintro _ hp1 ⟨rfl, hK1⟩
  refine z_st (st' := [.int (r_opA r (xs (i + 1)))]) rfl ?_
  refine z_aload_n C dL_law_526 rfl 1 rfl ?_
  refine z_aload_n C dL_law_527 rfl 3 rfl ?_
  refine z_iload_n C dL_law_528 rfl 0 rfl ?_
  refine z_iconst (v := 1) C dL_law_529 (by decide) ?_
  refine z_iadd C dL_law_530 ?_
  refine z_casti (y := nI (i + 1)) (nI_add i 1) ?_
  refine z_sld C hX hbl hbb (i := i + 1) (by omega) hL dL_law_531 ?_
  refine z_callV (rest := [.int (r_opA r (xs (i + 1)))]) C (w5_ofPage hK.V hK1 (xs (i + 1))) ml_L_81 kw_X5_ofPage hK1.h16 rfl rfl rfl (by simp [Value.category]) dL_law_532 (by decide) (by decide) (by omega) (by omega) ?_
  rintro _ hp2 ⟨rfl, hK2⟩
  refine z_st (st' := [.int (r_opA r (xs (i + 1))), .int (r_opA r (xs (i + 1)))]) rfl ?_
  exact z_icmp_eq (tgt := 665) C dL_law_535 (by decide) (fun _ => z_wid (by omega) (by omega) (kk _ _ hK2)) (fun h => absurd rfl h)
set_option maxHeartbeats 4000000 in
set_option maxRecDepth 100000 in
theorem lc_16 {p : Program} {l : Launch} {e : Env} {s : State} {m : MethodId} {args : Array Value} {below : List Frame} {meth : Method} {c : Code} {Q : State → Prop} {G : z_G} {base cells slots : Nat} {hp : List va_E} {b L i : Nat} {xs : Nat → Int32} {r : r_T} (C : z_C p s m args meth c cL_law 4 RL G base) (hX : va_X b L xs s s.heap) (hbl : b < s.heap.size) (hbb : b < base) (hL : L ≤ 1536) (hi : i + 2 < L) (hK : KK G base r r hp) (hc : cells + 2 ≤ room_1.cells) (hs : slots + 68 ≤ room_1.slots)
    (kk : ∀ r' hp', KK G base r' r' hp' → z_R p l e room_1 s m args below meth c Q G base 4 (cells + 2) (slots + 68) 665 [(3, .int (nI i)), (2, .ref (base + 16)), (1, .ref (base + 0)), (0, .ref b)] [] hp') : z_R p l e room_1 s m args below meth c Q G base 4 cells slots 540 [(3, .int (nI i)), (2, .ref (base + 16)), (1, .ref (base + 0)), (0, .ref b)] [] hp := by
  refine z_aload_n C dL_law_540 rfl 2 rfl ?_
  refine z_aload_n C dL_law_541 rfl 3 rfl ?_
  refine z_iload_n C dL_law_542 rfl 0 rfl ?_
  refine z_iconst (v := 1) C dL_law_543 (by decide) ?_
  refine z_iadd C dL_law_544 ?_
  refine z_casti (y := nI (i + 1)) (nI_add i 1) ?_
  refine z_sld C hX hbl hbb (i := i + 1) (by omega) hL dL_law_545 ?_
  obtain ⟨nc, h0⟩ := hK.h0
  refine z_callV (rest := []) C (w4_block hK (xs (i + 1))) ml_L_82 kw_X4_block h0 rfl rfl rfl (by simp [Value.category]) dL_law_546 (by decide) (by decide) (by omega) (by omega) ?_
  rintro _ hp1 ⟨rfl, hK1⟩
  refine z_st (st' := [.int (oI (r_bk r (xs (i + 1))))]) rfl ?_
  refine z_aload_n C dL_law_549 rfl 1 rfl ?_
  refine z_aload_n C dL_law_550 rfl 3 rfl ?_
  refine z_iload_n C dL_law_551 rfl 0 rfl ?_
  refine z_iconst (v := 1) C dL_law_552 (by decide) ?_
  refine z_iadd C dL_law_553 ?_
  refine z_casti (y := nI (i + 1)) (nI_add i 1) ?_
  refine z_sld C hX hbl hbb (i := i + 1) (by omega) hL dL_law_554 ?_
  refine z_callV (rest := [.int (oI (r_bk r (xs (i + 1))))]) C (w5_block hK.V hK1 (xs (i + 1))) ml_L_85 kw_X5_block hK1.h16 rfl rfl rfl (by simp [Value.category]) dL_law_555 (by decide) (by decide) (by omega) (by omega) ?_
  rintro _ hp2 ⟨rfl, hK2⟩
  refine z_st (st' := [.int (oI (r_bk r (xs (i + 1)))), .int (oI (r_bk r (xs (i + 1))))]) rfl ?_
  exact z_icmp_eq (tgt := 665) C dL_law_558 (by decide) (fun _ => z_wid (by omega) (by omega) (kk _ _ hK2)) (fun h => absurd rfl h)
set_option maxHeartbeats 4000000 in
set_option maxRecDepth 100000 in
theorem lc_17 {p : Program} {l : Launch} {e : Env} {s : State} {m : MethodId} {args : Array Value} {below : List Frame} {meth : Method} {c : Code} {Q : State → Prop} {G : z_G} {base cells slots : Nat} {hp : List va_E} {b L i : Nat} {xs : Nat → Int32} {r : r_T} (C : z_C p s m args meth c cL_law 4 RL G base) (hX : va_X b L xs s s.heap) (hbl : b < s.heap.size) (hbb : b < base) (hL : L ≤ 1536) (hi : i + 2 < L) (hK : KK G base r r hp) (hc : cells + 2 ≤ room_1.cells) (hs : slots + 68 ≤ room_1.slots)
    (kk : ∀ r' hp', KK G base r' r' hp' → z_R p l e room_1 s m args below meth c Q G base 4 (cells + 2) (slots + 68) 665 [(3, .int (nI i)), (2, .ref (base + 16)), (1, .ref (base + 0)), (0, .ref b)] [] hp') : z_R p l e room_1 s m args below meth c Q G base 4 cells slots 563 [(3, .int (nI i)), (2, .ref (base + 16)), (1, .ref (base + 0)), (0, .ref b)] [] hp := by
  refine z_aload_n C dL_law_563 rfl 2 rfl ?_
  refine z_aload_n C dL_law_564 rfl 3 rfl ?_
  refine z_iload_n C dL_law_565 rfl 0 rfl ?_
  refine z_iconst (v := 1) C dL_law_566 (by decide) ?_
  refine z_iadd C dL_law_567 ?_
  refine z_casti (y := nI (i + 1)) (nI_add i 1) ?_
  refine z_sld C hX hbl hbb (i := i + 1) (by omega) hL dL_law_568 ?_
  obtain ⟨nc, h0⟩ := hK.h0
  refine z_callV (rest := []) C (w4_order hK (xs (i + 1))) ml_L_86 kw_X4_order h0 rfl rfl rfl (by simp [Value.category]) dL_law_569 (by decide) (by decide) (by omega) (by omega) ?_
  rintro _ hp1 ⟨rfl, hK1⟩
  refine z_st (st' := [.int (r_orA r (xs (i + 1)))]) rfl ?_
  refine z_aload_n C dL_law_572 rfl 1 rfl ?_
  refine z_aload_n C dL_law_573 rfl 3 rfl ?_
  refine z_iload_n C dL_law_574 rfl 0 rfl ?_
  refine z_iconst (v := 1) C dL_law_575 (by decide) ?_
  refine z_iadd C dL_law_576 ?_
  refine z_casti (y := nI (i + 1)) (nI_add i 1) ?_
  refine z_sld C hX hbl hbb (i := i + 1) (by omega) hL dL_law_577 ?_
  refine z_callV (rest := [.int (r_orA r (xs (i + 1)))]) C (w5_order hK.V hK1 (xs (i + 1))) ml_L_89 kw_X5_order hK1.h16 rfl rfl rfl (by simp [Value.category]) dL_law_578 (by decide) (by decide) (by omega) (by omega) ?_
  rintro _ hp2 ⟨rfl, hK2⟩
  refine z_st (st' := [.int (r_orA r (xs (i + 1))), .int (r_orA r (xs (i + 1)))]) rfl ?_
  exact z_icmp_eq (tgt := 665) C dL_law_581 (by decide) (fun _ => z_wid (by omega) (by omega) (kk _ _ hK2)) (fun h => absurd rfl h)
set_option maxHeartbeats 4000000 in
set_option maxRecDepth 100000 in
theorem lc_18 {p : Program} {l : Launch} {e : Env} {s : State} {m : MethodId} {args : Array Value} {below : List Frame} {meth : Method} {c : Code} {Q : State → Prop} {G : z_G} {base cells slots : Nat} {hp : List va_E} {b L i : Nat} {xs : Nat → Int32} {r : r_T} (C : z_C p s m args meth c cL_law 4 RL G base) (hX : va_X b L xs s s.heap) (hbl : b < s.heap.size) (hbb : b < base) (hL : L ≤ 1536) (hi : i + 2 < L) (hK : KK G base r r hp) (hc : cells + 2 ≤ room_1.cells) (hs : slots + 68 ≤ room_1.slots)
    (kk : ∀ r' hp', KK G base r' r' hp' → z_R p l e room_1 s m args below meth c Q G base 4 (cells + 2) (slots + 68) 665 [(3, .int (nI i)), (2, .ref (base + 16)), (1, .ref (base + 0)), (0, .ref b)] [] hp') : z_R p l e room_1 s m args below meth c Q G base 4 cells slots 586 [(3, .int (nI i)), (2, .ref (base + 16)), (1, .ref (base + 0)), (0, .ref b)] [] hp := by
  refine z_aload_n C dL_law_586 rfl 2 rfl ?_
  refine z_aload_n C dL_law_587 rfl 3 rfl ?_
  refine z_iload_n C dL_law_588 rfl 0 rfl ?_
  refine z_iconst (v := 1) C dL_law_589 (by decide) ?_
  refine z_iadd C dL_law_590 ?_
  refine z_casti (y := nI (i + 1)) (nI_add i 1) ?_
  refine z_sld C hX hbl hbb (i := i + 1) (by omega) hL dL_law_591 ?_
  obtain ⟨nc, h0⟩ := hK.h0
  refine z_callV (rest := []) C (w4_freeBlocks hK (xs (i + 1))) ml_L_90 kw_X4_freeBlocks h0 rfl rfl rfl (by simp [Value.category]) dL_law_592 (by decide) (by decide) (by omega) (by omega) ?_
  rintro _ hp1 ⟨rfl, hK1⟩
  refine z_st (st' := [.int (a_fb r (xs (i + 1)))]) rfl ?_
  refine z_aload_n C dL_law_595 rfl 1 rfl ?_
  refine z_aload_n C dL_law_596 rfl 3 rfl ?_
  refine z_iload_n C dL_law_597 rfl 0 rfl ?_
  refine z_iconst (v := 1) C dL_law_598 (by decide) ?_
  refine z_iadd C dL_law_599 ?_
  refine z_casti (y := nI (i + 1)) (nI_add i 1) ?_
  refine z_sld C hX hbl hbb (i := i + 1) (by omega) hL dL_law_600 ?_
  refine z_callV (rest := [.int (a_fb r (xs (i + 1)))]) C (w5_freeBlocks hK.V hK1 (xs (i + 1))) ml_L_93 kw_X5_freeBlocks hK1.h16 rfl rfl rfl (by simp [Value.category]) dL_law_601 (by decide) (by decide) (by omega) (by omega) ?_
  rintro _ hp2 ⟨rfl, hK2⟩
  refine z_st (st' := [.int (a_fb r (xs (i + 1))), .int (a_fb r (xs (i + 1)))]) rfl ?_
  exact z_icmp_eq (tgt := 665) C dL_law_604 (by decide) (fun _ => z_wid (by omega) (by omega) (kk _ _ hK2)) (fun h => absurd rfl h)
set_option maxHeartbeats 4000000 in
set_option maxRecDepth 100000 in
theorem lc_19 {p : Program} {l : Launch} {e : Env} {s : State} {m : MethodId} {args : Array Value} {below : List Frame} {meth : Method} {c : Code} {Q : State → Prop} {G : z_G} {base cells slots : Nat} {hp : List va_E} {b L i : Nat} {xs : Nat → Int32} {r : r_T} (C : z_C p s m args meth c cL_law 4 RL G base) (hX : va_X b L xs s s.heap) (hbl : b < s.heap.size) (hbb : b < base) (hL : L ≤ 1536) (hi : i + 2 < L) (hK : KK G base r r hp) (hc : cells + 2 ≤ room_1.cells) (hs : slots + 68 ≤ room_1.slots)
    (kk : ∀ r' hp', KK G base r' r' hp' → z_R p l e room_1 s m args below meth c Q G base 4 (cells + 2) (slots + 68) 665 [(3, .int (nI i)), (2, .ref (base + 16)), (1, .ref (base + 0)), (0, .ref b)] [] hp') : z_R p l e room_1 s m args below meth c Q G base 4 cells slots 609 [(3, .int (nI i)), (2, .ref (base + 16)), (1, .ref (base + 0)), (0, .ref b)] [] hp := by
  refine z_aload_n C dL_law_609 rfl 2 rfl ?_
  refine z_aload_n C dL_law_610 rfl 3 rfl ?_
  refine z_iload_n C dL_law_611 rfl 0 rfl ?_
  refine z_iconst (v := 1) C dL_law_612 (by decide) ?_
  refine z_iadd C dL_law_613 ?_
  refine z_casti (y := nI (i + 1)) (nI_add i 1) ?_
  refine z_sld C hX hbl hbb (i := i + 1) (by omega) hL dL_law_614 ?_
  refine z_aload_n C dL_law_615 rfl 3 rfl ?_
  refine z_iload_n C dL_law_616 rfl 0 rfl ?_
  refine z_iconst (v := 2) C dL_law_617 (by decide) ?_
  refine z_iadd C dL_law_618 ?_
  refine z_casti (y := nI (i + 2)) (nI_add i 2) ?_
  refine z_sld C hX hbl hbb (i := i + 2) (by omega) hL dL_law_619 ?_
  obtain ⟨nc, h0⟩ := hK.h0
  refine z_callV (rest := []) C (w4_ofCache hK (xs (i + 1)) (xs (i + 2))) ml_L_94 kw_X4_ofCache h0 rfl rfl rfl (by simp [Value.category]) dL_law_620 (by decide) (by decide) (by omega) (by omega) ?_
  rintro _ hp1 ⟨rfl, hK1⟩
  refine z_st (st' := [.int (r_ocA r (xs (i + 1)) (xs (i + 2)))]) rfl ?_
  refine z_aload_n C dL_law_623 rfl 1 rfl ?_
  refine z_aload_n C dL_law_624 rfl 3 rfl ?_
  refine z_iload_n C dL_law_625 rfl 0 rfl ?_
  refine z_iconst (v := 1) C dL_law_626 (by decide) ?_
  refine z_iadd C dL_law_627 ?_
  refine z_casti (y := nI (i + 1)) (nI_add i 1) ?_
  refine z_sld C hX hbl hbb (i := i + 1) (by omega) hL dL_law_628 ?_
  refine z_aload_n C dL_law_629 rfl 3 rfl ?_
  refine z_iload_n C dL_law_630 rfl 0 rfl ?_
  refine z_iconst (v := 2) C dL_law_631 (by decide) ?_
  refine z_iadd C dL_law_632 ?_
  refine z_casti (y := nI (i + 2)) (nI_add i 2) ?_
  refine z_sld C hX hbl hbb (i := i + 2) (by omega) hL dL_law_633 ?_
  refine z_callV (rest := [.int (r_ocA r (xs (i + 1)) (xs (i + 2)))]) C (w5_ofCache hK.V hK1 (xs (i + 1)) (xs (i + 2))) ml_L_97 kw_X5_ofCache hK1.h16 rfl rfl rfl (by simp [Value.category]) dL_law_634 (by decide) (by decide) (by omega) (by omega) ?_
  rintro _ hp2 ⟨rfl, hK2⟩
  refine z_st (st' := [.int (r_ocA r (xs (i + 1)) (xs (i + 2))), .int (r_ocA r (xs (i + 1)) (xs (i + 2)))]) rfl ?_
  exact z_icmp_eq (tgt := 665) C dL_law_637 (by decide) (fun _ => z_wid (by omega) (by omega) (kk _ _ hK2)) (fun h => absurd rfl h)
set_option maxHeartbeats 4000000 in
set_option maxRecDepth 100000 in
theorem lc_20 {p : Program} {l : Launch} {e : Env} {s : State} {m : MethodId} {args : Array Value} {below : List Frame} {meth : Method} {c : Code} {Q : State → Prop} {G : z_G} {base cells slots : Nat} {hp : List va_E} {b L i : Nat} {xs : Nat → Int32} {r : r_T} (C : z_C p s m args meth c cL_law 4 RL G base) (hX : va_X b L xs s s.heap) (hbl : b < s.heap.size) (hbb : b < base) (hL : L ≤ 1536) (hi : i + 2 < L) (hK : KK G base r r hp) (hc : cells + 2 ≤ room_1.cells) (hs : slots + 68 ≤ room_1.slots)
    (kk : ∀ r' hp', KK G base r' r' hp' → z_R p l e room_1 s m args below meth c Q G base 4 (cells + 2) (slots + 68) 665 [(3, .int (nI i)), (2, .ref (base + 16)), (1, .ref (base + 0)), (0, .ref b)] [] hp') : z_R p l e room_1 s m args below meth c Q G base 4 cells slots 642 [(3, .int (nI i)), (2, .ref (base + 16)), (1, .ref (base + 0)), (0, .ref b)] [] hp := by
  refine z_aload_n C dL_law_642 rfl 2 rfl ?_
  refine z_aload_n C dL_law_643 rfl 3 rfl ?_
  refine z_iload_n C dL_law_644 rfl 0 rfl ?_
  refine z_iconst (v := 1) C dL_law_645 (by decide) ?_
  refine z_iadd C dL_law_646 ?_
  refine z_casti (y := nI (i + 1)) (nI_add i 1) ?_
  refine z_sld C hX hbl hbb (i := i + 1) (by omega) hL dL_law_647 ?_
  obtain ⟨nc, h0⟩ := hK.h0
  refine z_callV (rest := []) C (w4_count hK (xs (i + 1))) ml_L_98 kw_X4_count h0 rfl rfl rfl (by simp [Value.category]) dL_law_648 (by decide) (by decide) (by omega) (by omega) ?_
  rintro _ hp1 ⟨rfl, hK1⟩
  refine z_st (st' := [.int (a_cn r (xs (i + 1)))]) rfl ?_
  refine z_aload_n C dL_law_651 rfl 1 rfl ?_
  refine z_aload_n C dL_law_652 rfl 3 rfl ?_
  refine z_iload_n C dL_law_653 rfl 0 rfl ?_
  refine z_iconst (v := 1) C dL_law_654 (by decide) ?_
  refine z_iadd C dL_law_655 ?_
  refine z_casti (y := nI (i + 1)) (nI_add i 1) ?_
  refine z_sld C hX hbl hbb (i := i + 1) (by omega) hL dL_law_656 ?_
  refine z_callV (rest := [.int (a_cn r (xs (i + 1)))]) C (w5_count hK.V hK1 (xs (i + 1))) ml_L_101 kw_X5_count hK1.h16 rfl rfl rfl (by simp [Value.category]) dL_law_657 (by decide) (by decide) (by omega) (by omega) ?_
  rintro _ hp2 ⟨rfl, hK2⟩
  refine z_st (st' := [.int (a_cn r (xs (i + 1))), .int (a_cn r (xs (i + 1)))]) rfl ?_
  exact z_icmp_eq (tgt := 665) C dL_law_660 (by decide) (fun _ => z_wid (by omega) (by omega) (kk _ _ hK2)) (fun h => absurd rfl h)
