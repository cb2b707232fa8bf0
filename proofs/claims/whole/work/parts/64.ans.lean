/-! the answers are alike -/
theorem le255 {x : Int32} : x ≤ 255 ↔ x < 256 := by
  rw [Int32.le_iff_toInt_le, Int32.lt_iff_toInt_lt]
  have h1 : (255 : Int32).toInt = 255 := by decide
  have h2 : (256 : Int32).toInt = 256 := by decide
  omega
theorem le16383 {x : Int32} : x ≤ 16383 ↔ x < 16384 := by
  rw [Int32.le_iff_toInt_le, Int32.lt_iff_toInt_lt]
  have h1 : (16383 : Int32).toInt = 16383 := by decide
  have h2 : (16384 : Int32).toInt = 16384 := by decide
  omega
theorem isc_iff {r : r_T} {nc : Nat} {x : Int32} (h : r.1 1 = nI nc) (h2 : nc ≤ 12) : r_isc r x = true ↔ 0 ≤ x ∧ x < nI nc := by
  constructor
  · intro g
    obtain ⟨c, hc, rfl⟩ := r_isc_true h h2 g
    exact ⟨nI_pos' (by omega), nI_lt hc (by omega)⟩
  · rintro ⟨g1, g2⟩
    obtain ⟨c, hc, rfl⟩ := nI_of (x := x) (Int32.not_lt.mpr g1)
    exact r_isc_nI h h2 ((nI_ltI hc (by omega)).mp g2)
theorem e8_same {cf : Nat → Nat → Int32} {c : Nat} (h : cf c 8 = -1) : va_up cf c (upd (cf c) 8 (-1)) = cf := by
  funext i
  by_cases e : i = c
  · subst e
    rw [va_up_self]
    funext j
    unfold upd
    split
    · rename_i hj
      rw [hj, h]
    · rfl
  · rw [va_up_ne _ _ e]
section
variable {sc td : Nat → Int32} {q : q_T} {nc : Nat} {cf : Nat → Nat → Int32} {S : Nat → Option s_T} {mem : Nat → Nat} {r : r_T}
theorem RLQ.bk2 (h : RLQ sc td q nc cf S mem r) (x : Int32) : j_fo q.1 x = r_bk r x := by
  by_cases hx : 0 ≤ x ∧ x < 256
  · obtain ⟨P, hP, rfl⟩ := pg_of hx
    rw [h.fo hP]
    unfold r_bk
    rw [cl_nI hP]
    by_cases e : ¬ r.1 0 = 0 ∧ ¬ r.2.2 0 P = 0
    · rw [if_pos e, if_pos ⟨e.1, ⟨hx.1, le255.mpr hx.2⟩, e.2⟩]
    · rw [if_neg e, if_neg (fun z => e ⟨z.1, z.2.2⟩)]
  · unfold j_fo r_bk
    rw [if_neg hx, if_neg (fun z => hx ⟨z.2.1.1, le255.mp z.2.1.2⟩)]
theorem RLQ.fos (h : RLQ sc td q nc cf S mem r) {x : Int32} {f : Nat} (e : j_fo q.1 x = some f) : f < 256 ∧ q.1 f ≠ 0 := by
  rw [h.bk2 x] at e
  unfold r_bk at e
  split at e
  · rename_i hc
    cases e
    obtain ⟨P, hP, rfl⟩ := pg_of (x := x) ⟨hc.2.1.1, le255.mp hc.2.1.2⟩
    rw [cl_nI hP] at hc ⊢
    have hb := h.pb (by rw [h.st]; exact hc.1)
    exact ⟨(hb.2 P hP hc.2.2).1, (hb.2 P hP hc.2.2).2.1⟩
  · cases e
theorem RLQ.opA (h : RLQ sc td q nc cf S mem r) (x : Int32) : c_opA q.1 q.2.1 x = r_opA r x := by
  unfold c_opA r_opA
  by_cases hx : 0 ≤ x ∧ x < 256
  · rw [if_pos hx, if_pos ⟨hx.1, le255.mpr hx.2⟩, ← h.bk2 x]
    cases e : j_fo q.1 x with
    | none => rfl
    | some f =>
      obtain ⟨f1, f2⟩ := h.fos e
      have hA := (h.pb (h.on f2)).1 f f1 f2
      have h13 := h.bq.1.2 f
      show j_uf q.1 q.2.1 (nI f) = if r.2.2 1 f = 0 then 0 else if 0 ≤ r.2.2 2 f then 2 + r.2.2 2 f else 1
      rw [j_uf_at f1 f2, hA.2.2.2.2.1, hA.2.2.2.2.2]
      by_cases u0 : q.2.1 f = 0
      · rw [if_pos u0, u0]; rfl
      · rw [if_neg u0, if_neg (by decide)]
        by_cases u1 : q.2.1 f ≤ 1
        · rw [if_pos u1, if_neg (by decide), show q.2.1 f = 1 by omega]; rfl
        · rw [if_neg u1, if_pos (nI_pos' (by omega))]
          show _ = nI 2 + _
          rw [nI_add, show 2 + (q.2.1 f - 2) = q.2.1 f by omega]
  · rw [if_neg hx, if_neg (fun z => hx ⟨z.1, le255.mp z.2⟩)]
theorem RLQ.orA (h : RLQ sc td q nc cf S mem r) (x : Int32) : j_of q.1 (oI (j_fo q.1 x)) = r_orA r x := by
  unfold r_orA
  rw [← h.bk2 x]
  cases e : j_fo q.1 x with
  | none => rfl
  | some f =>
    obtain ⟨f1, f2⟩ := h.fos e
    have hA := (h.pb (h.on f2)).1 f f1 f2
    show j_of q.1 (nI f) = nI (r.2.1 2 f)
    rw [j_of_at f1, hA.2.2.2.1]
    exact pk_sub (b := 1) (by omega)
theorem RLQ.sums (h : RLQ sc td q nc cf S mem r) : r_sum (r_gF r) 256 = r_sum (gF q.1 q.2.1) 256 := by
  by_cases hs : sc 0 = 0
  · rw [h.q0 hs, r_sum_0 256 (fun p _ => ?_), r_sum_0 256 (fun p _ => ?_)]
    · exact if_neg (fun z => z.1 rfl)
    · refine if_neg (fun z => ?_)
      exact (of_decide_eq_true (of_decide_eq_true z).1).1 (by rw [← h.st]; exact hs)
  · exact (h.pb hs).sumF (by rw [← h.st]; exact hs)
theorem RLQ.fbA (h : RLQ sc td q nc cf S mem r) {k : Nat} (hk : k ≤ 6) : q.2.2 k = nI (r_sum (fun p => if r_free r p = true ∧ r.2.1 2 p = k then 1 else 0) 256) := by
  obtain ⟨T, hT, -⟩ := h.qc
  rw [hT.1 k (by omega)]
  refine congrArg nI ?_
  by_cases hs : sc 0 = 0
  · rw [h.q0 hs, r_sum_0 256 (fun p _ => ?_), r_sum_0 256 (fun p _ => ?_)]
    · refine if_neg (fun z => ?_)
      exact (of_decide_eq_true (of_decide_eq_true z.1).1).1 (by rw [← h.st]; exact hs)
    · refine if_neg (fun z => ?_)
      have z1 : (0 : Nat) = k + 1 := z.1
      omega
  · refine r_sum_cg 256 (fun p hp => ?_)
    have hb := h.pb hs
    have hf := hb.fr (by rw [← h.st]; exact hs) hp
    unfold cF
    by_cases e : q.1 p = k + 1 ∧ q.2.1 p = 0
    · have ho : q.1 p ≠ 0 := by omega
      have hA := hb.1 p hp ho
      rw [if_pos e, if_pos ⟨hf.mpr ⟨ho, e.2⟩, by omega⟩]
    · rw [if_neg e, if_neg (fun z => ?_)]
      have ho := hf.mp z.1
      have hA := hb.1 p hp ho.1
      exact e ⟨by omega, ho.2⟩
theorem RLQ.slt (h : RLQ sc td q nc cf S mem r) {p c : Nat} (hp : p < 256) (hc : c < nc) : r_slab r p c = true ↔ tu q p = 2 + c := by
  have h12 := h.k.2.2
  by_cases hs : sc 0 = 0
  · rw [cr_sl (q := q) (by rw [← h.st]; exact hs), h.q0 hs]
    refine ⟨fun z => absurd z Bool.false_ne_true, fun z => ?_⟩
    have z1 : (0 : Nat) = 2 + c := z
    omega
  · rw [(h.pb hs).sl (by rw [← h.st]; exact hs) hp (h.bq.1.2 p) (by omega)]
    constructor
    · rintro ⟨h1, h2⟩
      rw [tu_of h1, h2]
    · intro h1
      have := tu_pos (q := q) (p := p) (by omega)
      exact ⟨this.1, by omega⟩
theorem RLQ.sS (h : RLQ sc td q nc cf S mem r) {c : Nat} (hc : c < nc) : r_sum (r_gS r c) 256 = r_sum (gS (tu q) c) 256 := by
  refine r_sum_cg 256 (fun p hp => ?_)
  have hi := h.slt hp hc
  unfold r_gS gS
  by_cases e : tu q p = 2 + c
  · rw [if_pos e, if_pos (hi.mpr e)]
  · rw [if_neg e, if_neg (fun z => e (hi.mp z))]
theorem RLQ.sL (h : RLQ sc td q nc cf S mem r) {c : Nat} (hc : c < nc) : r_sum (r_gL r c) 256 = r_sum (gL (tu q) r c) 256 := by
  refine r_sum_cg 256 (fun p hp => ?_)
  have hi := h.slt hp hc
  unfold r_gL gL
  by_cases e : tu q p = 2 + c
  · rw [if_pos e, if_pos (hi.mpr e)]
  · rw [if_neg e, if_neg (fun z => e (hi.mp z))]
theorem RLQ.ocA (h : RLQ sc td q nc cf S mem r) (x y : Int32) : (if 0 ≤ x ∧ x < nI nc then j_fig (cf x.toNatClampNeg) y else -1) = r_ocA r x y := by
  have h12 := h.k.2.2
  have hi := isc_iff (x := x) h.k.1 h12
  unfold r_ocA
  by_cases e : 0 ≤ x ∧ x < nI nc
  · rw [if_pos e, if_pos (hi.mpr e)]
    obtain ⟨c, hc, rfl⟩ := r_isc_true h.k.1 h12 (hi.mpr e)
    rw [nI_clamp (by omega)]
    unfold j_fig
    by_cases ey : y.toInt < 0 ∨ 7 < y.toInt
    · rw [if_pos ey, if_pos ey]
    · rw [if_neg ey, if_neg ey]
      obtain ⟨⟨-, a1, a2, a3, a4, a5⟩, -, a6, a7, a8, -⟩ := h.c c hc
      obtain ⟨j, hj, rfl⟩ : ∃ j : Nat, j < 8 ∧ y = nI j := by
        obtain ⟨j, hj, rfl⟩ := nI_of (x := y) (fun z => ey (Or.inl (by rw [Int32.lt_iff_toInt_lt] at z; exact z)))
        refine ⟨j, ?_, rfl⟩
        rw [nI_toInt hj] at ey
        omega
      rw [nI_clamp (by omega)]
      rw [← h.sS hc] at a6
      rw [← h.sL hc] at a7
      rcases (show j = 0 ∨ j = 1 ∨ j = 2 ∨ j = 3 ∨ j = 4 ∨ j = 5 ∨ j = 6 ∨ j = 7 by omega) with rfl | rfl | rfl | rfl | rfl | rfl | rfl | rfl
      · exact a1
      · exact a2
      · exact a3
      · exact a4
      · exact a5
      · exact a6
      · exact a7
      · exact a8
  · rw [if_neg e, if_neg (fun z => e (hi.mp z))]
theorem RLQ.lvA (h : RLQ sc td q nc cf S mem r) : ∀ n, c_lv cf nc n = nI (r_sum (fun c => r_sum (r_gL r c) 256) (min n nc)) := by
  intro n
  induction n with
  | zero => rw [Nat.zero_min]; rfl
  | succ n ih =>
    show c_lv cf nc n + _ = _
    rw [ih]
    by_cases e : n < nc
    · obtain ⟨-, -, -, a7, -⟩ := h.c n e
      rw [if_pos e, a7, ← h.sL e, nI_add, show min (n + 1) nc = n + 1 by omega, show min n nc = n by omega]
      rfl
    · rw [if_neg e, show min (n + 1) nc = nc by omega, show min n nc = nc by omega]
      exact Int32.add_zero _
theorem RLQ.cnA (h : RLQ sc td q nc cf S mem r) (x : Int32) : c_cnA sc (c_lv cf nc 12) nc x = r_cnA r nc x := by
  have h12 := h.k.2.2
  unfold c_cnA r_cnA
  by_cases e : x.toInt < 0 ∨ 8 < x.toInt
  · rw [if_pos e, if_pos e]
  · rw [if_neg e, if_neg e]
    rcases tab9 x with z | ⟨j, hj, rfl⟩
    · exact absurd z e
    rw [nI_clamp (by omega)]
    obtain ⟨-, -, b1, b3, b4, b5, b6, ⟨b7, -⟩, b8, -⟩ := h.n
    obtain ⟨T, hT, b2⟩ := h.qc
    have hlv := h.lvA 12
    rw [show min 12 nc = nc by omega] at hlv
    rcases (show j = 0 ∨ j = 1 ∨ j = 2 ∨ j = 3 ∨ j = 4 ∨ j = 5 ∨ j = 6 ∨ j = 7 ∨ j = 8 by omega) with rfl | rfl | rfl | rfl | rfl | rfl | rfl | rfl | rfl
    · rw [h.us] at b1
      exact b1
    · show sc 2 = nI (r_sum (r_gF r) 256)
      rw [b2, h.sums, hT.2]
    · exact b4
    · exact b5
    · exact b6
    · exact hlv
    · exact b8.symm
    · exact b3
    · exact b7
theorem RLQ.fpx (h : RLQ sc td q nc cf S mem r) (x : Int32) : (¬ j_wp q.1 q.2.1 x = 0 ∧ j_wp q.1 q.2.1 x = r_fpA r x ∧ r_fpS r x = r) ∨ ∃ P, P < 256 ∧ x = nI P ∧ 1 ≤ q.1 P ∧ j_wp q.1 q.2.1 x = 0 ∧ nI (2 ^ (q.1 P - 1)) = r_fpA r x ∧ RLQ (s_rel sc (q.1 P - 1)) td (q_rel q P) nc cf S mem (r_fpS r x) := by
  by_cases hx : 0 ≤ x ∧ x < 256
  · obtain ⟨P, hP, rfl⟩ := pg_of hx
    obtain ⟨w1, w2⟩ := h.wp hP
    by_cases e : r_fp r (nI P) = 0
    · have hu := w2 e
      have ht := tu_pos (q := q) (p := P) (by omega)
      have hA := (h.pb (h.on ht.1)).1 P hP ht.1
      refine Or.inr ⟨P, hP, rfl, by omega, by rw [w1, e], ?_, ?_⟩
      · unfold r_fpA
        rw [if_pos e, cl_nI hP, hA.2.2.2.1]
      · unfold r_fpS
        rw [if_pos e, cl_nI hP]
        exact h.fp hP hu
    · refine Or.inl ⟨by rw [w1]; exact e, ?_, if_neg e⟩
      unfold r_fpA
      rw [if_neg e, w1]
  · have e1 : j_wp q.1 q.2.1 x = -2 := by
      have e3 : j_uf q.1 q.2.1 x = -1 := by
        unfold j_uf
        exact if_neg (fun z => hx z.1)
      unfold j_wp
      rw [e3]
      rfl
    have e2 : r_fp r x = -2 := by
      unfold r_fp
      refine if_neg (fun z => ?_)
      unfold r_fi at z
      rw [Bool.and_eq_true, decide_eq_true_iff] at z
      exact hx ⟨z.1.1, le255.mp z.1.2⟩
    refine Or.inl ⟨by rw [e1]; decide, ?_, if_neg (by rw [e2]; decide)⟩
    unfold r_fpA
    rw [if_neg (by rw [e2]; decide), e1, e2]
theorem RLQ.shr (h : RLQ sc td q nc cf S mem r) {c : Nat} (hc : c < nc) : (cf c 8 = -1 ∧ r_shA r (nI c) = 0 ∧ RLQ sc td q nc cf S mem (r_shS r (nI c))) ∨ ∃ E, E < 256 ∧ cf c 8 = nI E ∧ 1 ≤ q.1 E ∧ nI (2 ^ r.2.1 8 c) = r_shA r (nI c) ∧ RLQ (s_rel sc (q.1 E - 1)) td (q_rel q E) nc (va_up cf c (upd (upd (cf c) 8 (-1)) 6 (cf c 6 - 1))) S mem (r_shS r (nI c)) := by
  have h12 := h.k.2.2
  have hi := r_isc_nI h.k.1 h12 hc
  obtain ⟨-, -, -, -, a8, hE⟩ := h.c c hc
  have g1 := h.e8 (x := -1) hc (Or.inl rfl)
  rcases hE with hE | ⟨E, e1, e2, e3, e4⟩
  · have n0 : ¬ 0 ≤ r.2.2 3 c := by rw [← a8, hE]; decide
    refine Or.inl ⟨hE, ?_, ?_⟩
    · unfold r_shA
      rw [if_pos hi, nI_clamp (by omega), if_neg n0]
    · unfold r_shS
      rw [if_pos hi, nI_clamp (by omega), if_neg n0]
      rw [e8_same hE] at g1
      exact g1
  · have n0 : 0 ≤ r.2.2 3 c := by rw [← a8, e2]; exact nI_pos' (by omega)
    have ht := tu_pos (q := q) (p := E) (by omega)
    have hA := (h.pb (h.on ht.1)).1 E e1 ht.1
    have hto : to q E = r.2.1 8 c + 1 := by
      obtain ⟨c', c1, c2, c3, -⟩ := h.t.1 E e1 (by omega)
      rw [c3, show c' = c by omega]
    refine Or.inr ⟨E, e1, e2, by omega, ?_, ?_⟩
    · unfold r_shA
      rw [if_pos hi, nI_clamp (by omega), if_pos n0, ← a8, e2, cl_nI e1, hA.2.2.2.1, show q.1 E - 1 = r.2.1 8 c by omega]
    · unfold r_shS
      rw [if_pos hi, nI_clamp (by omega), if_pos n0]
      have g2 := g1.drop (P := E) (c := c) e1 hc e3 e4 (by rw [va_up_self]; show ¬ (-1 : Int32) = nI E; exact fun z => nI_m1 (by omega) z.symm)
      have e5 : va_up (va_up cf c (upd (cf c) 8 (-1))) c (upd (va_up cf c (upd (cf c) 8 (-1)) c) 6 (va_up cf c (upd (cf c) 8 (-1)) c 6 - 1)) = va_up cf c (upd (upd (cf c) 8 (-1)) 6 (cf c 6 - 1)) := by
        funext i
        by_cases e : i = c
        · subst e
          rw [va_up_self, va_up_self, va_up_self]
          rfl
        · rw [va_up_ne _ _ e, va_up_ne _ _ e, va_up_ne _ _ e]
      rw [e5] at g2
      rw [← a8, e2, cl_nI e1]
      exact g2
theorem RLQ.rdA (h : RLQ sc td q nc cf S mem r) (x : Int32) : c_rdA mem x = r_rdA r x := by
  unfold c_rdA r_rdA
  by_cases e : 0 ≤ x ∧ x < 16384
  · rw [if_pos e, if_pos ⟨e.1, le16383.mpr e.2⟩, h.m]
  · rw [if_neg e, if_neg (fun z => e ⟨z.1, le16383.mp z.2⟩)]
theorem RLQ.usB (h : RLQ sc td q nc cf S mem r) (x y : Int32) : c_usB sc x y = r_usB r x y := by
  unfold c_usB r_usB
  rw [decide_eq_decide, h.st]
  constructor
  · rintro ⟨h1, h2, h3, h4⟩
    exact ⟨h1, ⟨h2, le255.mpr (Int32.lt_of_le_of_lt h4 h3)⟩, h4, le255.mpr h3⟩
  · rintro ⟨h1, h2, h3, h4⟩
    exact ⟨h1, h2.1, le255.mp h4, h3⟩
theorem RLQ.chB (h : RLQ sc td q nc cf S mem r) (x y : Int32) : c_chB sc nc x y = r_chB r x y := by
  unfold c_chB r_chB
  rw [decide_eq_decide, h.st, h.k.1]
  have hy : 1 ≤ y ∧ y ≤ 64 → (y &&& (y - 1) = 0 ↔ bc_F y = 1) := fun g => by
    obtain ⟨j, hj, rfl⟩ := nI_of (x := y) (fun z => absurd (Int32.le_trans g.1 (Int32.le_of_lt z)) (by decide))
    have g1 : 1 ≤ j := by
      rcases Nat.eq_zero_or_pos j with z | z
      · subst z
        exact absurd g.1 (by decide)
      · exact z
    have g2 : j ≤ 64 := by
      rcases Nat.lt_or_ge 64 j with z | z
      · exact absurd (nI_lt (a := 64) z hj) (Int32.not_lt.mpr g.2)
      · exact z
    exact al_and j (by omega) g1
  constructor
  · rintro ⟨h1, h2, h3, h4, h5, h6⟩
    exact ⟨h1, h3, ⟨h4, h5⟩, (hy ⟨h4, h5⟩).mpr h6, h2⟩
  · rintro ⟨h1, h2, h3, h4, h5⟩
    exact ⟨h1, h5, h2, h3.1, h3.2, (hy h3).mp h4⟩
end
