/-! words for objects, slabs, kinds -/
theorem c_pg_n {q : q_T} {S : Nat → Option s_T} {c p : Nat} (h : S p = none) : c_pg q S c p = false := by
  unfold c_pg; rw [h]
theorem c_pg_s {q : q_T} {S : Nat → Option s_T} {c p j r n ob : Nat} {f : Nat → Nat} {w : Int64} (h : S p = some (j, r, n, ob, f, w)) : c_pg q S c p = decide (j_uf q.1 q.2.1 (nI p) = nI (2 + c) ∧ 0 < n ∧ n < ob) := by
  unfold c_pg; rw [h]
theorem j_fo_le {od : Nat → Nat} {P f : Nat} (hP : P < 256) (h : j_fo od (nI P) = some f) : f ≤ P := by
  unfold j_fo at h
  rw [if_pos (pg_in hP), cl_nI hP] at h
  have : ∀ (n k : Nat), q_fst od P n k = some f → f ≤ P := by
    intro n
    induction n with
    | zero => intro k h; cases h
    | succ n ih =>
      intro k h
      unfold q_fst at h
      split at h
      · cases h; exact Nat.div_mul_le_self _ _
      · exact ih _ h
  exact this _ _ h
theorem j_uf_at {od us : Nat → Nat} {P : Nat} (hP : P < 256) (h : od P ≠ 0) : j_uf od us (nI P) = nI (us P) := by
  unfold j_uf
  rw [cl_nI hP, if_pos ⟨pg_in hP, h⟩]
theorem j_of_at {od : Nat → Nat} {P : Nat} (hP : P < 256) : j_of od (nI P) = nI (od P) - 1 := by
  unfold j_of
  rw [cl_nI hP, if_pos (pg_in hP)]
def c_wo2 (q : q_T) (S : Nat → Option s_T) (kt kb : Nat → Nat) (c a : Nat) : Int32 := match j_fo q.1 (nI (a / 64)) with
  | none => -2
  | some P => match S P with
    | none => -2
    | some s => if j_uf q.1 q.2.1 (nI P) = nI (2 + c) then (match j_ix (a - P * 64) (kt c) (kb c) with
      | none => -2
      | some i => if lb s.2.2.2.2.2 i = true then 0 else -3) else -2
def c_wo (q : q_T) (S : Nat → Option s_T) (kt kb : Nat → Nat) (c : Nat) (x : Int32) : Int32 := if 0 ≤ x ∧ x < 16384 then c_wo2 q S kt kb c x.toNatClampNeg else -2
theorem ad_in {a : Nat} (h : a < 16384) : 0 ≤ nI a ∧ nI a < 16384 := ⟨nI_pos' (by omega), (nI_lt (b := 16384) h (by decide))⟩
theorem c_wo_at {q : q_T} {S : Nat → Option s_T} {kt kb : Nat → Nat} {c a : Nat} (h : a < 16384) : c_wo q S kt kb c (nI a) = c_wo2 q S kt kb c a := by
  unfold c_wo
  rw [if_pos (ad_in h), nI_clamp (by omega)]
def c_ws2 (q : q_T) (S : Nat → Option s_T) (kt kb : Nat → Nat) (a : Nat) : Int32 :=
  if 2 ≤ j_uf q.1 q.2.1 (oI (j_fo q.1 (nI (a / 64)))) then (if j_uf q.1 q.2.1 (oI (j_fo q.1 (nI (a / 64)))) < 8 then c_wo2 q S kt kb ((j_uf q.1 q.2.1 (oI (j_fo q.1 (nI (a / 64))))).toNatClampNeg - 2) a else -2)
  else if a % 64 = 0 then j_wp q.1 q.2.1 (nI (a / 64)) else -2
def c_ws (q : q_T) (S : Nat → Option s_T) (kt kb : Nat → Nat) (x : Int32) : Int32 := if 0 ≤ x ∧ x < 16384 then c_ws2 q S kt kb x.toNatClampNeg else -2
theorem c_ws_at {q : q_T} {S : Nat → Option s_T} {kt kb : Nat → Nat} {a : Nat} (h : a < 16384) : c_ws q S kt kb (nI a) = c_ws2 q S kt kb a := by
  unfold c_ws
  rw [if_pos (ad_in h), nI_clamp (by omega)]
/-- what the class's methods ask of its state -/
def X_ok (nc : Nat) (q : q_T) (cf : Nat → Nat → Int32) (S : Nat → Option s_T) (kt ko kb : Nat → Nat) : Prop :=
  (∀ p, q.1 p ≤ 7) ∧ (∀ p, q.2.1 p ≤ 13) ∧ (∀ p, p < 256 → q.1 p ≠ 0 → p + 2 ^ (q.1 p - 1) ≤ 256) ∧ c_kf cf nc kt ko kb ∧ c_sf S ∧ 6 ≤ nc ∧ nc ≤ 12 ∧
  ∀ c, c < nc → cf c 8 = -1 ∨ ∃ E j r n ob f w, E < 256 ∧ cf c 8 = nI E ∧ S E = some (j, r, n, ob, f, w) ∧ 1 ≤ n ∧ 1 ≤ q.1 E
theorem X_ok.q {nc : Nat} {q : q_T} {cf : Nat → Nat → Int32} {S : Nat → Option s_T} {kt ko kb : Nat → Nat} (h : X_ok nc q cf S kt ko kb) : ∀ p, q.1 p ≤ 7 := h.1
theorem X_ok.u {nc : Nat} {q : q_T} {cf : Nat → Nat → Int32} {S : Nat → Option s_T} {kt ko kb : Nat → Nat} (h : X_ok nc q cf S kt ko kb) : ∀ p, q.2.1 p ≤ 13 := h.2.1
theorem X_ok.al {nc : Nat} {q : q_T} {cf : Nat → Nat → Int32} {S : Nat → Option s_T} {kt ko kb : Nat → Nat} (h : X_ok nc q cf S kt ko kb) : ∀ p, p < 256 → q.1 p ≠ 0 → p + 2 ^ (q.1 p - 1) ≤ 256 := h.2.2.1
theorem X_ok.kf {nc : Nat} {q : q_T} {cf : Nat → Nat → Int32} {S : Nat → Option s_T} {kt ko kb : Nat → Nat} (h : X_ok nc q cf S kt ko kb) : c_kf cf nc kt ko kb := h.2.2.2.1
theorem X_ok.sf {nc : Nat} {q : q_T} {cf : Nat → Nat → Int32} {S : Nat → Option s_T} {kt ko kb : Nat → Nat} (h : X_ok nc q cf S kt ko kb) : c_sf S := h.2.2.2.2.1
theorem X_ok.n6 {nc : Nat} {q : q_T} {cf : Nat → Nat → Int32} {S : Nat → Option s_T} {kt ko kb : Nat → Nat} (h : X_ok nc q cf S kt ko kb) : 6 ≤ nc := h.2.2.2.2.2.1
theorem X_ok.nc {nc : Nat} {q : q_T} {cf : Nat → Nat → Int32} {S : Nat → Option s_T} {kt ko kb : Nat → Nat} (h : X_ok nc q cf S kt ko kb) : nc ≤ 12 := h.2.2.2.2.2.2.1
theorem X_ok.em {nc : Nat} {q : q_T} {cf : Nat → Nat → Int32} {S : Nat → Option s_T} {kt ko kb : Nat → Nat} (h : X_ok nc q cf S kt ko kb) : ∀ c, c < nc → cf c 8 = -1 ∨ ∃ E j r n ob f w, E < 256 ∧ cf c 8 = nI E ∧ S E = some (j, r, n, ob, f, w) ∧ 1 ≤ n ∧ 1 ≤ q.1 E := h.2.2.2.2.2.2.2
theorem C_ok.ca {G : z_G} {base : Nat} {sc td : Nat → Int32} {q : q_T} {nc : Nat} {cf : Nat → Nat → Int32} {pl : Nat → Nat} {S : Nat → Option s_T} {mem : Nat → Nat} {hp : List va_E} (h : C_ok G base sc td q nc cf pl S mem hp) {c : Nat} (hc : c < nc) : hp[pl c]? = some (q_oC (cf c)) := (h.2.2.2.2.2.2.1.1 c hc).1
theorem C_ok.cp {G : z_G} {base : Nat} {sc td : Nat → Int32} {q : q_T} {nc : Nat} {cf : Nat → Nat → Int32} {pl : Nat → Nat} {S : Nat → Option s_T} {mem : Nat → Nat} {hp : List va_E} (h : C_ok G base sc td q nc cf pl S mem hp) {c : Nat} (hc : c < nc) : pl c < 16 ∨ 30 ≤ pl c := (h.2.2.2.2.2.2.1.1 c hc).2.2
theorem C_ok.cp10 {G : z_G} {base : Nat} {sc td : Nat → Int32} {q : q_T} {nc : Nat} {cf : Nat → Nat → Int32} {pl : Nat → Nat} {S : Nat → Option s_T} {mem : Nat → Nat} {hp : List va_E} (h : C_ok G base sc td q nc cf pl S mem hp) {c : Nat} (hc : c < nc) : 10 ≤ pl c := (h.2.2.2.2.2.2.1.1 c hc).2.1
theorem C_ok.sj {G : z_G} {base : Nat} {sc td : Nat → Int32} {q : q_T} {nc : Nat} {cf : Nat → Nat → Int32} {pl : Nat → Nat} {S : Nat → Option s_T} {mem : Nat → Nat} {hp : List va_E} (h : C_ok G base sc td q nc cf pl S mem hp) {P j r n ob : Nat} {f : Nat → Nat} {w : Int64} (hS : S P = some (j, r, n, ob, f, w)) : hp[j]? = some (q_oS r n ob w base) := (h.2.2.2.2.2.2.2.1.1 P _ hS).1
theorem C_ok.sr {G : z_G} {base : Nat} {sc td : Nat → Int32} {q : q_T} {nc : Nat} {cf : Nat → Nat → Int32} {pl : Nat → Nat} {S : Nat → Option s_T} {mem : Nat → Nat} {hp : List va_E} (h : C_ok G base sc td q nc cf pl S mem hp) {P j r n ob : Nat} {f : Nat → Nat} {w : Int64} (hS : S P = some (j, r, n, ob, f, w)) : hp[r]? = some (q_aI G 64 f) := (h.2.2.2.2.2.2.2.1.1 P _ hS).2.1
theorem C_ok.s30 {G : z_G} {base : Nat} {sc td : Nat → Int32} {q : q_T} {nc : Nat} {cf : Nat → Nat → Int32} {pl : Nat → Nat} {S : Nat → Option s_T} {mem : Nat → Nat} {hp : List va_E} (h : C_ok G base sc td q nc cf pl S mem hp) {P j r n ob : Nat} {f : Nat → Nat} {w : Int64} (hS : S P = some (j, r, n, ob, f, w)) : 30 ≤ j ∧ 30 ≤ r := (h.2.2.2.2.2.2.2.1.1 P _ hS).2.2
theorem C_ok.jr {G : z_G} {base : Nat} {sc td : Nat → Int32} {q : q_T} {nc : Nat} {cf : Nat → Nat → Int32} {pl : Nat → Nat} {S : Nat → Option s_T} {mem : Nat → Nat} {hp : List va_E} (h : C_ok G base sc td q nc cf pl S mem hp) {P j r n ob : Nat} {f : Nat → Nat} {w : Int64} (hS : S P = some (j, r, n, ob, f, w)) : j ≠ r := fun z => by
  have h1 := h.sj hS
  rw [z] at h1
  have h2 := h1.symm.trans (h.sr hS)
  cases h2
theorem C_ok.cj {G : z_G} {base : Nat} {sc td : Nat → Int32} {q : q_T} {nc : Nat} {cf : Nat → Nat → Int32} {pl : Nat → Nat} {S : Nat → Option s_T} {mem : Nat → Nat} {hp : List va_E} (h : C_ok G base sc td q nc cf pl S mem hp) {P j r n ob c : Nat} {f : Nat → Nat} {w : Int64} (hS : S P = some (j, r, n, ob, f, w)) (hc : c < nc) : pl c ≠ j := fun z => by
  have h1 := h.sj hS
  rw [← z] at h1
  have h2 := h1.symm.trans (h.ca hc)
  cases h2
theorem C_ok.cr {G : z_G} {base : Nat} {sc td : Nat → Int32} {q : q_T} {nc : Nat} {cf : Nat → Nat → Int32} {pl : Nat → Nat} {S : Nat → Option s_T} {mem : Nat → Nat} {hp : List va_E} (h : C_ok G base sc td q nc cf pl S mem hp) {P j r n ob c : Nat} {f : Nat → Nat} {w : Int64} (hS : S P = some (j, r, n, ob, f, w)) (hc : c < nc) : pl c ≠ r := fun z => by
  have h1 := h.sr hS
  rw [← z] at h1
  have h2 := h1.symm.trans (h.ca hc)
  cases h2
theorem C_ok.setj {G : z_G} {base : Nat} {sc td : Nat → Int32} {q : q_T} {nc : Nat} {cf : Nat → Nat → Int32} {pl : Nat → Nat} {S : Nat → Option s_T} {mem : Nat → Nat} {hp : List va_E} (h : C_ok G base sc td q nc cf pl S mem hp) {P j r n ob n' ob' : Nat} {f : Nat → Nat} {w w' : Int64} (hS : S P = some (j, r, n, ob, f, w)) : C_ok G base sc td q nc cf pl (va_up S P (some (j, r, n', ob', f, w'))) mem (hp.set j (q_oS r n' ob' w' base)) := by
  have h1 := h.sets (n' := n') (ob' := ob') (f' := f) (w' := w') hS
  have h2 : hp.set r (q_aI G 64 f) = hp := by
    apply List.ext_getElem?
    intro k
    by_cases hk : r = k
    · subst hk
      rw [z_self (h.sr hS), h.sr hS]
    · rw [List.getElem?_set_ne hk]
  rw [h2] at h1
  exact h1
def s_rel (sc : Nat → Int32) (k : Nat) : Nat → Int32 := upd (upd sc 6 (sc 6 + 1)) 2 (sc 2 + nI (2 ^ k))
def q_rel (q : q_T) (P : Nat) : q_T := q_join (6 - (q.1 P - 1)) q P (q.1 P - 1)
def c_ka (q : q_T) (P : Nat) : Nat := if 2 ≤ q.2.1 P then q.2.1 P - 2 else 6 + (q.1 P - 1)
def l_set (w : Int64) (i : Nat) : Int64 := w ||| ((1 : Int64) <<< ((nI i).toInt64 &&& 63))
def l_clr (w : Int64) (i : Nat) : Int64 := w &&& (((1 : Int64) <<< ((nI i).toInt64 &&& 63)) ^^^ (-1))
def c_tk (g : Nat → Int32) (P : Nat) : Nat → Int32 := upd (if nI P = g 8 then upd g 8 (-1) else g) 7 (g 7 + 1)
/-- an object is taken: out of a slab that is there; or no slab can be made; or out of a new one -/
def T_take (kt ko kb : Nat → Nat) (sc : Nat → Int32) (q : q_T) (cf : Nat → Nat → Int32) (S : Nat → Option s_T) (c : Nat) (x : Int32) (sc' : Nat → Int32) (q' : q_T) (cf' : Nat → Nat → Int32) (S' : Nat → Option s_T) : Prop :=
  (∃ P j r n ob f w, (c_part q S c = some P ∨ (c_part q S c = none ∧ cf c 8 = nI P)) ∧ P < 256 ∧ S P = some (j, r, n, ob, f, w) ∧ 1 ≤ n ∧ x = nI (P * 64 + f (n - 1) * kt c) ∧ sc' = sc ∧ q' = q ∧ cf' = va_up cf c (c_tk (cf c) P) ∧ S' = va_up S P (some (j, r, n - 1, ob, f, l_set w (f (n - 1))))) ∨
  (c_part q S c = none ∧ cf c 8 = -1 ∧ j_take sc q (ko c) = none ∧ x = -1 ∧ sc' = s_miss (s_arm sc) ∧ q' = q ∧ cf' = cf ∧ S' = S) ∨
  (∃ P j r f, c_part q S c = none ∧ cf c 8 = -1 ∧ j_take sc q (ko c) = some P ∧ P < 256 ∧ (∀ i, i < kb c → f i = kb c - 1 - i) ∧ x = nI (P * 64) ∧ sc' = s_got (s_arm sc) (ko c) ∧ q' = q_got q P (ko c) (2 + c) ∧ cf' = va_up cf c (upd (upd (cf c) 6 (cf c 6 + 1)) 7 (cf c 7 + 1)) ∧ S' = va_up S P (some (j, r, kb c - 1, kb c, f, l_set 0 0)))
def T_kind (kt ko kb : Nat → Nat) (sc : Nat → Int32) (q : q_T) (cf : Nat → Nat → Int32) (S : Nat → Option s_T) (k : Nat) (x : Int32) (sc' : Nat → Int32) (q' : q_T) (cf' : Nat → Nat → Int32) (S' : Nat → Option s_T) : Prop :=
  (k < 6 ∧ T_take kt ko kb sc q cf S k x sc' q' cf' S') ∨ (6 ≤ k ∧ x = (match j_take sc q (k - 6) with
    | none => -1
    | some P => nI (P * 64)) ∧ sc' = j_scl sc q (k - 6) ∧ q' = j_qcl sc q (k - 6) 1 ∧ cf' = cf ∧ S' = S)
/-- an object is given back -/
def T_give (sc : Nat → Int32) (q : q_T) (cf : Nat → Nat → Int32) (S : Nat → Option s_T) (c P i : Nat) (x : Int32) (sc' : Nat → Int32) (q' : q_T) (cf' : Nat → Nat → Int32) (S' : Nat → Option s_T) : Prop :=
  ∃ j r n ob f w, S P = some (j, r, n, ob, f, w) ∧ x = nI (ob - (n + 1)) ∧ S' = va_up S P (some (j, r, n + 1, ob, va_up f n i, l_clr w i)) ∧
  ((¬ ob = n + 1 ∧ sc' = sc ∧ q' = q ∧ cf' = va_up cf c (upd (cf c) 7 (cf c 7 - 1))) ∨
   (ob = n + 1 ∧ cf c 8 = -1 ∧ sc' = sc ∧ q' = q ∧ cf' = va_up cf c (upd (upd (cf c) 7 (cf c 7 - 1)) 8 (nI P))) ∨
   (ob = n + 1 ∧ ¬ cf c 8 = -1 ∧ sc' = s_rel sc (q.1 P - 1) ∧ q' = q_rel q P ∧ cf' = va_up cf c (upd (upd (cf c) 7 (cf c 7 - 1)) 6 (cf c 6 - 1))))
/-- what can be given back as an object -/
def H_give (q : q_T) (S : Nat → Option s_T) (kt kb : Nat → Nat) (c a P i : Nat) : Prop :=
  a < 16384 ∧ P < 256 ∧ 1 ≤ q.1 P ∧ j_fo q.1 (nI (a / 64)) = some P ∧ j_ix (a - P * 64) (kt c) (kb c) = some i ∧ ∃ j r n f w, S P = some (j, r, n, kb c, f, w) ∧ n < kb c
def H_gbs (q : q_T) (S : Nat → Option s_T) (kt kb : Nat → Nat) (a P : Nat) : Prop :=
  a < 16384 ∧ P < 256 ∧ 1 ≤ q.1 P ∧ j_fo q.1 (nI (a / 64)) = some P ∧ ((∃ c i, c < 6 ∧ q.2.1 P = 2 + c ∧ H_give q S kt kb c a P i) ∨ (q.2.1 P < 2 ∧ P = a / 64))
def T_gbs (kt kb : Nat → Nat) (sc : Nat → Int32) (q : q_T) (cf : Nat → Nat → Int32) (S : Nat → Option s_T) (a P : Nat) (sc' : Nat → Int32) (q' : q_T) (cf' : Nat → Nat → Int32) (S' : Nat → Option s_T) : Prop :=
  (∃ c i x, q.2.1 P = 2 + c ∧ H_give q S kt kb c a P i ∧ T_give sc q cf S c P i x sc' q' cf' S') ∨
  (q.2.1 P < 2 ∧ sc' = s_rel sc (q.1 P - 1) ∧ q' = q_rel q P ∧ cf' = cf ∧ S' = S)
theorem c_part_some {q : q_T} {S : Nat → Option s_T} {c P : Nat} (h : c_part q S c = some P) : P < 256 ∧ ∃ j r n ob f w, S P = some (j, r, n, ob, f, w) ∧ j_uf q.1 q.2.1 (nI P) = nI (2 + c) ∧ 0 < n ∧ n < ob := by
  have h1 := q_find_some 256 0 P h
  refine ⟨by omega, ?_⟩
  rcases opts_cases (S P) with hS | ⟨j, r, n, ob, f, w, hS⟩
  · rw [c_pg_n hS] at h1
    exact absurd h1.2.2 Bool.false_ne_true
  · rw [c_pg_s hS] at h1
    exact ⟨j, r, n, ob, f, w, hS, of_decide_eq_true h1.2.2⟩
theorem j_take_lt {sc : Nat → Int32} {q : q_T} {k P : Nat} (h : j_take sc q k = some P) : P < 256 ∧ q.1 P ≠ 0 := by
  unfold j_take at h
  split at h
  · cases h
  · have := q_lp_lt 256 0 P h
    exact ⟨by omega, by omega⟩
theorem j_ix_some {o t b i : Nat} (h : j_ix o t b = some i) : i = o / t ∧ i < b ∧ o % t = 0 := by
  unfold j_ix at h
  split at h
  · rename_i hc
    cases h
    exact ⟨rfl, hc.2, hc.1⟩
  · cases h
theorem q_row_at (ob : Nat) : ∀ (n i : Nat) (f : Nat → Nat), n + i = ob → ∀ k, (i ≤ k → k < ob → q_row ob n i f k = ob - 1 - k) ∧ (k < i → q_row ob n i f k = f k) := by
  intro n
  induction n with
  | zero => intro i f h k; exact ⟨fun a b => by omega, fun _ => rfl⟩
  | succ n ih =>
    intro i f h k
    have h1 := ih (i + 1) (va_up f i (ob - 1 - i)) (by omega) k
    refine ⟨fun a b => ?_, fun a => ?_⟩
    · show q_row ob n (i + 1) (va_up f i (ob - 1 - i)) k = _
      by_cases hk : k = i
      · subst hk
        rw [h1.2 (by omega), va_up_self]
      · exact h1.1 (by omega) b
    · show q_row ob n (i + 1) (va_up f i (ob - 1 - i)) k = _
      rw [h1.2 (by omega), va_up_ne _ _ (by omega)]
/-- a new slab -/
theorem C_ok.news {G : z_G} {base : Nat} {sc td : Nat → Int32} {q : q_T} {nc : Nat} {cf : Nat → Nat → Int32} {pl : Nat → Nat} {S : Nat → Option s_T} {mem : Nat → Nat} {hp : List va_E} (h : C_ok G base sc td q nc cf pl S mem hp) {P n ob : Nat} {f : Nat → Nat} {w : Int64} (hS : S P = none) :
    C_ok G base sc td q nc cf pl (va_up S P (some (hp.length, hp.length + 1, n, ob, f, w))) mem ((hp ++ [q_oS (hp.length + 1) n ob w base, q_aI G 64 f]).set 8 (q_aR G 3 256 (va_up (c_sl base S) P (some (base + hp.length))))) := by
  obtain ⟨h0, h1, ⟨f0, h2, hm⟩, ⟨h3, h4, h5, h6, h7⟩, h8, h9, ⟨hc, hci⟩, ⟨hs, hsi⟩, hl⟩ := h
  have ap : ∀ {i : Nat} {e : va_E}, hp[i]? = some e → (hp ++ [q_oS (hp.length + 1) n ob w base, q_aI G 64 f])[i]? = some e := fun he => by
    rw [List.getElem?_append_left (List.getElem?_eq_some_iff.mp he).1]; exact he
  have lt : ∀ {i : Nat} {e : va_E}, hp[i]? = some e → i < hp.length := fun he => (List.getElem?_eq_some_iff.mp he).1
  have oth : ∀ {i : Nat} {e x : va_E}, i ≠ 8 → hp[i]? = some e → ((hp ++ [q_oS (hp.length + 1) n ob w base, q_aI G 64 f]).set 8 x)[i]? = some e := fun a c => z_oth (Ne.symm a) (ap c)
  refine ⟨oth (by omega) h0, oth (by omega) h1, ⟨f0, oth (by omega) h2, hm⟩, ⟨oth (by omega) h3, oth (by omega) h4, oth (by omega) h5, oth (by omega) h6, oth (by omega) h7⟩, ?_, oth (by omega) h9, ⟨fun c hcn => ⟨oth (by have := (hc c hcn).2; omega) (hc c hcn).1, (hc c hcn).2⟩, hci⟩, ⟨fun p s hp' => ?_, fun p p' s s' hp' hp'' he => ?_⟩, by rw [List.length_set, List.length_append]; omega⟩
  · rw [z_self (ap h8)]
    congr 2
    funext p
    unfold c_sl va_up
    by_cases hp : p = P
    · rw [if_pos hp, if_pos hp]; rfl
    · rw [if_neg hp, if_neg hp]
  · by_cases hpP : p = P
    · subst hpP
      rw [va_up_self] at hp'
      cases hp'
      dsimp only
      refine ⟨z_oth (by omega) ?_, z_oth (by omega) ?_, by omega, by omega⟩
      · rw [List.getElem?_append_right (Nat.le_refl _), Nat.sub_self]; rfl
      · rw [List.getElem?_append_right (by omega), Nat.add_sub_cancel_left]; rfl
    · rw [va_up_ne _ _ hpP] at hp'
      have g := hs p s hp'
      exact ⟨oth (by omega) g.1, oth (by omega) g.2.1, g.2.2⟩
  · by_cases hpP : p = P
    · by_cases hpP' : p' = P
      · rw [hpP, hpP']
      · exfalso
        rw [hpP, va_up_self] at hp'
        rw [va_up_ne _ _ hpP'] at hp''
        cases hp'
        have g := hs p' s' hp''
        have g1 := lt g.1
        have g2 := lt g.2.1
        dsimp only at he
        omega
    · by_cases hpP' : p' = P
      · exfalso
        rw [hpP', va_up_self] at hp''
        rw [va_up_ne _ _ hpP] at hp'
        cases hp''
        have g := hs p s hp'
        have g1 := lt g.1
        have g2 := lt g.2.1
        dsimp only at he
        omega
      · rw [va_up_ne _ _ hpP] at hp'
        rw [va_up_ne _ _ hpP'] at hp''
        exact hsi p p' s s' hp' hp'' he
theorem C_fr.app {a b t : List va_E} (h : C_fr a b) (hl : 30 ≤ b.length) : C_fr a (b ++ t) := ⟨fun i h1 h2 => by rw [List.getElem?_append_left (by omega)]; exact h.1 i h1 h2, by rw [List.length_append]; exact Nat.le_trans h.2 (by omega)⟩
theorem C_ok.len {G : z_G} {base : Nat} {sc td : Nat → Int32} {q : q_T} {nc : Nat} {cf : Nat → Nat → Int32} {pl : Nat → Nat} {S : Nat → Option s_T} {mem : Nat → Nat} {hp : List va_E} (h : C_ok G base sc td q nc cf pl S mem hp) : 30 ≤ hp.length := h.2.2.2.2.2.2.2.2
theorem u_28 {u : Int32} (h1 : ¬ u < 2) (h2 : ¬ 8 ≤ u) : ∃ c1, c1 < 6 ∧ u = nI (2 + c1) := by
  obtain ⟨k, hk, rfl⟩ := nI_of (x := u) (fun z => h1 (Int32.lt_trans z (by decide)))
  have h3 : k < 8 := by
    rcases Nat.lt_or_ge k 8 with z | z
    · exact z
    · exact absurd (nI_le (a := 8) z (by omega)) h2
  have h4 : ¬ k < 2 := fun z => h1 (nI_lt (b := 2) z (by decide))
  exact ⟨k - 2, by omega, by rw [show 2 + (k - 2) = k by omega]⟩
