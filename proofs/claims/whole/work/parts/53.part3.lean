theorem QX.jn {q : q_T} {f b m k T : Nat} (h : QX q f T) (hb : b < 256) (hf : f < 256) (hbf : b ≠ f) (hk : k < 7) (h1 : q.1 b = k + 1) (h2 : q.2.1 b = 0) (hm : m = f ∨ m = b) : ∃ T', T = T' + 2 ^ k ∧ QX (va_up (va_up q.1 f 0) b 0, q.2.1, upd q.2.2 k (q.2.2 k - 1)) m T' := by
  have hcF : ∀ j, cF (va_up (va_up q.1 f 0) b 0) q.2.1 j = sx (sx (cF q.1 q.2.1 j) f) b := fun j => by
    funext p
    show (if va_up (va_up q.1 f 0) b 0 p = j + 1 ∧ q.2.1 p = 0 then 1 else 0) = _
    by_cases e : p = b
    · rw [e, va_up_self, sx_self, if_neg (by omega)]
    · rw [va_up_ne _ _ e, sx_ne _ e]
      by_cases e2 : p = f
      · rw [e2, va_up_self, sx_self, if_neg (by omega)]
      · rw [va_up_ne _ _ e2, sx_ne _ e2]
        rfl
  have hgF : gF (va_up (va_up q.1 f 0) b 0) q.2.1 = sx (sx (gF q.1 q.2.1) f) b := by
    funext p
    show (if va_up (va_up q.1 f 0) b 0 p ≠ 0 ∧ q.2.1 p = 0 then 2 ^ (va_up (va_up q.1 f 0) b 0 p - 1) else 0) = _
    by_cases e : p = b
    · rw [e, va_up_self, sx_self, if_neg (fun z => z.1 rfl)]
    · rw [va_up_ne _ _ e, sx_ne _ e]
      by_cases e2 : p = f
      · rw [e2, va_up_self, sx_self, if_neg (fun z => z.1 rfl)]
      · rw [va_up_ne _ _ e2, sx_ne _ e2]
        rfl
  have hz : ∀ g : Nat → Nat, sx (sx (sx g f) b) m = sx (sx g f) b := fun g => sx_id (by
    rcases hm with rfl | rfl
    · rw [sx_ne _ (Ne.symm hbf), sx_self]
    · rw [sx_self])
  have hcb : ∀ j, sx (cF q.1 q.2.1 j) f b = if k = j then 1 else 0 := fun j => by
    rw [sx_ne _ hbf]
    show (if q.1 b = j + 1 ∧ q.2.1 b = 0 then 1 else 0) = _
    by_cases e : k = j
    · rw [if_pos e, if_pos ⟨by omega, h2⟩]
    · rw [if_neg e, if_neg (by omega)]
  have hgb : sx (gF q.1 q.2.1) f b = 2 ^ k := by
    rw [sx_ne _ hbf]
    show (if q.1 b ≠ 0 ∧ q.2.1 b = 0 then 2 ^ (q.1 b - 1) else 0) = _
    rw [if_pos ⟨by omega, h2⟩, h1]
    rfl
  refine ⟨r_sum (sx (sx (gF q.1 q.2.1) f) b) 256, ?_, fun j hj => ?_, ?_⟩
  · rw [← h.2, r_sum_sx 256 hb, hgb]
  · show upd q.2.2 k (q.2.2 k - 1) j = nI (r_sum (sx (cF (va_up (va_up q.1 f 0) b 0) q.2.1 j) m) 256)
    rw [hcF j, hz]
    have h9 := h.1 j hj
    rw [r_sum_sx 256 hb, hcb j] at h9
    by_cases e : k = j
    · subst e
      rw [upd_self, h9, if_pos rfl]
      rw [show (1 : Int32) = nI 1 from rfl, pk_sub (by omega), Nat.add_sub_cancel]
    · rw [upd_ne _ _ (Ne.symm e), h9, if_neg e, Nat.add_zero]
  · show r_sum (sx (gF (va_up (va_up q.1 f 0) b 0) q.2.1) m) 256 = _
    rw [hgF, hz]
theorem tu_lay {q : q_T} {f k : Nat} (G : Nat → Nat → Nat) (p : Nat) : tg G (q_lay q f k) p = va_up (tg G q) f 0 p := by
  show (if va_up q.1 f (k + 1) p = 0 ∨ va_up q.2.1 f 0 p = 0 then 0 else G (va_up q.1 f (k + 1) p) (va_up q.2.1 f 0 p)) = _
  by_cases e : p = f
  · rw [e, va_up_self, va_up_self, va_up_self, if_pos (Or.inr rfl)]
  · rw [va_up_ne _ _ e, va_up_ne _ _ e, va_up_ne _ _ e]
    rfl
theorem jn_all : ∀ (n : Nat) (q : q_T) (r : r_T) (f k T : Nat), n + k = 6 → f < 256 → ¬ r.1 0 = 0 → PB (va_up q.1 f (k + 1)) (va_up q.2.1 f 0) (r.2.2 0) (r.2.1 1) (r.2.1 2) (r.2.2 1) (r.2.2 2) → QX q f T →
    PB (q_join n q f k).1 (q_join n q f k).2.1 (r.2.2 0) ((r_join n r f k).2.1 1) ((r_join n r f k).2.1 2) ((r_join n r f k).2.2 1) ((r_join n r f k).2.2 2) ∧ QC (q_join n q f k) (T + 2 ^ k) ∧ ∀ G p, tg G (q_join n q f k) p = va_up (tg G q) f 0 p := by
  intro n
  induction n with
  | zero => intro q r f k T hn hf hs h hx; exact ⟨h, hx.fin hf (by omega), tu_lay⟩
  | succ n ih =>
    intro q r f k T hn hf hs h hx
    have a2 := (h.1 f hf (by rw [va_up_self]; omega)).2.1
    rw [va_up_self, Nat.add_sub_cancel] at a2
    obtain ⟨b1, b2, b3, b4, b5, b6⟩ := bk_bud k (by omega) f hf a2
    have hcond : (k < 6 ∧ r_free r (f ^^^ 2 ^ k) = true ∧ r.2.1 2 (f ^^^ 2 ^ k) = k) ↔ (k < 6 ∧ q.1 (f ^^^ 2 ^ k) = k + 1 ∧ q.2.1 (f ^^^ 2 ^ k) = 0) := by
      rw [h.fr hs b1, va_up_ne _ _ b2, va_up_ne _ _ b2]
      constructor
      · rintro ⟨c1, ⟨c2, c3⟩, c4⟩
        have := (h.1 _ b1 (by rw [va_up_ne _ _ b2]; exact c2)).2.2.2.1
        rw [va_up_ne _ _ b2] at this
        exact ⟨c1, by omega, c3⟩
      · rintro ⟨c1, c2, c3⟩
        have := (h.1 _ b1 (by rw [va_up_ne _ _ b2]; omega)).2.2.2.1
        rw [va_up_ne _ _ b2] at this
        exact ⟨c1, ⟨by omega, c3⟩, by omega⟩
    unfold q_join r_join
    by_cases hc : k < 6 ∧ q.1 (f ^^^ 2 ^ k) = k + 1 ∧ q.2.1 (f ^^^ 2 ^ k) = 0
    · rw [if_pos hc, if_pos (hcond.mpr hc)]
      have hj := h.join hf hc.1 (va_up_self _ _ _) (by rw [va_up_ne _ _ b2]; exact hc.2.1)
      have hm : min f (f ^^^ 2 ^ k) = f ∨ min f (f ^^^ 2 ^ k) = f ^^^ 2 ^ k := by omega
      obtain ⟨T', hT, hx'⟩ := hx.jn b1 hf b2 (by omega) hc.2.1 hc.2.2 hm
      rw [va_up_up] at hj
      have hj2 := hj.irr (us' := va_up q.2.1 (min f (f ^^^ 2 ^ k)) 0) (fun g hg ho => by
        by_cases e : g = min f (f ^^^ 2 ^ k)
        · rw [e, va_up_self, va_up_self]
        · rw [va_up_ne _ _ e, va_up_ne _ _ e]
          have e2 : g ≠ f := fun z => by
            rw [va_up_ne _ _ e, z, va_up_ne _ _ (Ne.symm b2), va_up_self] at ho
            exact ho rfl
          rw [va_up_ne _ _ e2])
      have g := ih (va_up (va_up q.1 f 0) (f ^^^ 2 ^ k) 0, q.2.1, upd q.2.2 k (q.2.2 k - 1)) (r_mk r (min f (f ^^^ 2 ^ k)) (k + 1) 0) (min f (f ^^^ 2 ^ k)) (k + 1) T' (by omega) (by omega) hs hj2 hx'
      refine ⟨g.1, ?_, fun G p => ?_⟩
      · have g2 := g.2.1
        rw [Nat.pow_succ, show T' + 2 ^ k * 2 = T + 2 ^ k by omega] at g2
        exact g2
      · rw [g.2.2 G p]
        by_cases e1 : p = min f (f ^^^ 2 ^ k)
        · rw [e1, va_up_self]
          rcases hm with e | e
          · rw [e, va_up_self]
          · rw [e, va_up_ne _ _ b2]
            exact (if_pos (Or.inr hc.2.2)).symm
        · rw [va_up_ne _ _ e1]
          show (if va_up (va_up q.1 f 0) (f ^^^ 2 ^ k) 0 p = 0 ∨ q.2.1 p = 0 then 0 else G (va_up (va_up q.1 f 0) (f ^^^ 2 ^ k) 0 p) (q.2.1 p)) = _
          by_cases e2 : p = f ^^^ 2 ^ k
          · rw [e2, va_up_self, if_pos (Or.inl rfl), va_up_ne _ _ b2]
            exact (if_pos (Or.inr hc.2.2)).symm
          · rw [va_up_ne _ _ e2]
            by_cases e3 : p = f
            · rw [e3, va_up_self, va_up_self, if_pos (Or.inl rfl)]
            · rw [va_up_ne _ _ e3, va_up_ne _ _ e3]
              rfl
    · rw [if_neg hc, if_neg (fun z => hc (hcond.mp z))]
      exact ⟨h, hx.fin hf (by omega), tu_lay⟩
theorem sp_all {P k : Nat} (hP : P < 256) : ∀ (n : Nat) (q : q_T) (r : r_T) (T : Nat), k + n ≤ 6 → PB (va_up q.1 P (k + n + 1)) q.2.1 (r.2.2 0) (r.2.1 1) (va_up (r.2.1 2) P (k + n)) (r.2.2 1) (r.2.2 2) → QX q P T →
    PB (va_up (q_hv P k n q).1 P (k + 1)) (q_hv P k n q).2.1 (r.2.2 0) ((r_split P k n r).2.1 1) (va_up ((r_split P k n r).2.1 2) P k) ((r_split P k n r).2.2 1) ((r_split P k n r).2.2 2) ∧ (∃ T', T' + 2 ^ k = T + 2 ^ (k + n) ∧ QX (q_hv P k n q) P T') ∧ ∀ G p, p ≠ P → tg G (q_hv P k n q) p = tg G q p := by
  intro n
  induction n with
  | zero => intro q r T hk h hx; exact ⟨h, ⟨T, rfl, hx⟩, fun _ _ _ => rfl⟩
  | succ n ih =>
    intro q r T hk h hx
    have hp := Nat.two_pow_pos (k + n)
    have hPb : P + 2 ^ (k + n) ≠ P := by omega
    obtain ⟨a1, a2, a3, -⟩ := h.1 P hP (by rw [va_up_self]; omega)
    rw [va_up_self] at a2 a3
    simp only [show k + (n + 1) + 1 - 1 = k + n + 1 by omega] at a2 a3
    obtain ⟨b1, b2, b3, b4⟩ := bk_spl (k + n) (by omega) P hP a2
    have h0 : q.1 (P + 2 ^ (k + n)) = 0 := by
      rcases Nat.eq_zero_or_pos (q.1 (P + 2 ^ (k + n))) with z | z
      · exact z
      · have c1 := h.1 _ b1 (by rw [va_up_ne _ _ hPb]; omega)
        have c2 := (c1.2.2.1 _ b1 c1.2.1).2
        have c3 := (a3 _ b1 b4).2
        omega
    have hs := h.split hP (show k + n < 6 by omega) (by rw [va_up_self]; omega)
    rw [va_up_up, va_up_up, va_up_comm _ _ _ (Ne.symm hPb), va_up_comm _ _ _ (Ne.symm hPb)] at hs
    obtain ⟨g1, ⟨T', g2, g3⟩, g4⟩ := ih (q_lay q (P + 2 ^ (k + n)) (k + n)) (r_mk r (P + 2 ^ (k + n)) (k + n) 0) (T + 2 ^ (k + n)) (by omega) hs (hx.lay b1 hPb (by omega) h0)
    refine ⟨g1, ⟨T', by rw [g2, show k + (n + 1) = k + n + 1 by omega, Nat.pow_succ]; omega, g3⟩, fun G p hpP => ?_⟩
    show tg G (q_hv P k n (q_lay q (P + 2 ^ (k + n)) (k + n))) p = tg G q p
    rw [g4 G p hpP, tu_lay]
    by_cases e : p = P + 2 ^ (k + n)
    · rw [e, va_up_self]
      unfold tg
      rw [if_pos (Or.inl h0)]
    · rw [va_up_ne _ _ e]
/-- a block is taken -/
theorem got_all {q : q_T} {r : r_T} {P k u T : Nat} (hP : P < 256) (hk : k + 1 ≤ q.1 P) (hu : u ≠ 0) (hf : q.2.1 P = 0) (h : PB q.1 q.2.1 (r.2.2 0) (r.2.1 1) (r.2.1 2) (r.2.2 1) (r.2.2 2)) (hx : QC q T) :
    PB (q_got q P k u).1 (q_got q P k u).2.1 (r.2.2 0) ((r_got r P k).2.1 1) ((r_got r P k).2.1 2) ((r_got r P k).2.2 1) (upd ((r_got r P k).2.2 2) P (if u ≤ 1 then -1 else nI (u - 2))) ∧ (∃ T', T' + 2 ^ k = T ∧ QC (q_got q P k u) T') ∧ ∀ G p, tg G (q_got q P k u) p = va_up (tg G q) P (G (k + 1) u) p := by
  obtain ⟨a1, a2, a3, a4, -⟩ := h.1 P hP (by omega)
  obtain ⟨n, hn⟩ : ∃ n, q.1 P = k + n + 1 := ⟨q.1 P - 1 - k, by omega⟩
  have hn1 : q.1 P - 1 - k = n := by omega
  have hn2 : r.2.1 2 P - k = n := by omega
  have hx2 : QX (q.1, q.2.1, upd q.2.2 (q.1 P - 1) (q.2.2 (q.1 P - 1) - 1)) P (r_sum (sx (gF q.1 q.2.1) P) 256) := by
    refine ⟨fun j hj => ?_, rfl⟩
    show upd q.2.2 (q.1 P - 1) (q.2.2 (q.1 P - 1) - 1) j = nI (r_sum (sx (cF q.1 q.2.1 j) P) 256)
    have h9 := hx.1 j hj
    rw [r_sum_sx 256 hP] at h9
    by_cases e : j = q.1 P - 1
    · rw [← e, upd_self, h9, show cF q.1 q.2.1 j P = 1 from if_pos ⟨by omega, hf⟩, show (1 : Int32) = nI 1 from rfl, pk_sub (by omega), Nat.add_sub_cancel]
    · rw [upd_ne _ _ e, h9, show cF q.1 q.2.1 j P = 0 from if_neg (by omega), Nat.add_zero]
  have hT : T = r_sum (sx (gF q.1 q.2.1) P) 256 + 2 ^ (k + n) := by
    rw [← hx.2, r_sum_sx 256 hP, show gF q.1 q.2.1 P = 2 ^ (q.1 P - 1) from if_pos ⟨by omega, hf⟩, hn]
    rfl
  have h2 : PB (va_up q.1 P (k + n + 1)) q.2.1 (r.2.2 0) (r.2.1 1) (va_up (r.2.1 2) P (k + n)) (r.2.2 1) (r.2.2 2) := by
    rw [va_up_id _ _ _ hn, va_up_id _ _ _ (show r.2.1 2 P = k + n by omega)]
    exact h
  obtain ⟨g1, ⟨T', g2, g3⟩, g4⟩ := sp_all hP n (q.1, q.2.1, upd q.2.2 (q.1 P - 1) (q.2.2 (q.1 P - 1) - 1)) r _ (by omega) h2 hx2
  have e1 : q_got q P k u = (va_up (q_hv P k n (q.1, q.2.1, upd q.2.2 (q.1 P - 1) (q.2.2 (q.1 P - 1) - 1))).1 P (k + 1), va_up (q_hv P k n (q.1, q.2.1, upd q.2.2 (q.1 P - 1) (q.2.2 (q.1 P - 1) - 1))).2.1 P u, (q_hv P k n (q.1, q.2.1, upd q.2.2 (q.1 P - 1) (q.2.2 (q.1 P - 1) - 1))).2.2) := by
    unfold q_got q_halve
    rw [hn1]
  generalize hq' : q_hv P k n (q.1, q.2.1, upd q.2.2 (q.1 P - 1) (q.2.2 (q.1 P - 1) - 1)) = q' at *
  refine ⟨?_, ⟨T', by omega, fun j hj => ?_, ?_⟩, fun G p => ?_⟩
  · have h3 := g1.use P u
    rw [e1]
    have h4 : (r_got r P k).2.1 1 = (r_split P k n r).2.1 1 := by
      unfold r_got
      rw [hn2]
      exact g1.run hP (va_up_self _ _ _)
    have h5 : (r_got r P k).2.1 2 = va_up ((r_split P k n r).2.1 2) P k := by
      unfold r_got
      rw [hn2]
      rfl
    have h6 : (r_got r P k).2.2 1 = upd ((r_split P k n r).2.2 1) P 1 := by
      unfold r_got
      rw [hn2]
      rfl
    have h7 : (r_got r P k).2.2 2 = upd ((r_split P k n r).2.2 2) P (-1) := by
      unfold r_got
      rw [hn2]
      rfl
    rw [h4, h5, h6, h7, upd_upd]
    rw [if_neg hu] at h3
    exact h3
  · rw [e1]
    show q'.2.2 j = nI (r_sum (cF (va_up q'.1 P (k + 1)) (va_up q'.2.1 P u) j) 256)
    rw [g3.1 j hj]
    refine congrArg nI (r_sum_cg 256 (fun p _ => ?_))
    by_cases e : p = P
    · rw [e, sx_self]
      show 0 = if va_up q'.1 P (k + 1) P = j + 1 ∧ va_up q'.2.1 P u P = 0 then 1 else 0
      rw [va_up_self, va_up_self, if_neg (fun z => hu z.2)]
    · rw [sx_ne _ e]
      show _ = if va_up q'.1 P (k + 1) p = j + 1 ∧ va_up q'.2.1 P u p = 0 then 1 else 0
      rw [va_up_ne _ _ e, va_up_ne _ _ e]
      rfl
  · rw [e1]
    show r_sum (gF (va_up q'.1 P (k + 1)) (va_up q'.2.1 P u)) 256 = T'
    rw [← g3.2]
    refine r_sum_cg 256 (fun p _ => ?_)
    by_cases e : p = P
    · rw [e, sx_self]
      show (if va_up q'.1 P (k + 1) P ≠ 0 ∧ va_up q'.2.1 P u P = 0 then _ else 0) = 0
      rw [va_up_self, va_up_self, if_neg (fun z => hu z.2)]
    · rw [sx_ne _ e]
      show (if va_up q'.1 P (k + 1) p ≠ 0 ∧ va_up q'.2.1 P u p = 0 then 2 ^ (va_up q'.1 P (k + 1) p - 1) else 0) = _
      rw [va_up_ne _ _ e, va_up_ne _ _ e]
      rfl
  · rw [e1]
    by_cases e : p = P
    · rw [e, va_up_self]
      show (if va_up q'.1 P (k + 1) P = 0 ∨ va_up q'.2.1 P u P = 0 then 0 else G (va_up q'.1 P (k + 1) P) (va_up q'.2.1 P u P)) = G (k + 1) u
      rw [va_up_self, va_up_self, if_neg (by omega)]
    · rw [va_up_ne _ _ e]
      have := g4 G p e
      show (if va_up q'.1 P (k + 1) p = 0 ∨ va_up q'.2.1 P u p = 0 then 0 else G (va_up q'.1 P (k + 1) p) (va_up q'.2.1 P u p)) = _
      rw [va_up_ne _ _ e, va_up_ne _ _ e]
      exact this
/-- a block comes back -/
theorem rel_all {q : q_T} {r : r_T} {P T : Nat} (hP : P < 256) (ho : q.1 P ≠ 0) (hu : q.2.1 P ≠ 0) (hs : ¬ r.1 0 = 0) (h : PB q.1 q.2.1 (r.2.2 0) (r.2.1 1) (r.2.1 2) (r.2.2 1) (r.2.2 2)) (hx : QC q T) :
    PB (q_rel q P).1 (q_rel q P).2.1 (r.2.2 0) ((r_gvs r P).2.1 1) ((r_gvs r P).2.1 2) ((r_gvs r P).2.2 1) ((r_gvs r P).2.2 2) ∧ QC (q_rel q P) (T + 2 ^ (q.1 P - 1)) ∧ ∀ G p, tg G (q_rel q P) p = va_up (tg G q) P 0 p := by
  obtain ⟨a1, a2, a3, a4, -⟩ := h.1 P hP ho
  obtain ⟨k, hk⟩ : ∃ k, q.1 P = k + 1 := ⟨q.1 P - 1, by omega⟩
  rw [hk, Nat.add_sub_cancel] at a4
  have hx2 : QX q P T := by
    refine ⟨fun j hj => ?_, ?_⟩
    · rw [sx_id (show cF q.1 q.2.1 j P = 0 from if_neg (fun z => hu z.2))]
      exact hx.1 j hj
    · rw [sx_id (show gF q.1 q.2.1 P = 0 from if_neg (fun z => hu z.2))]
      exact hx.2
  have h2 : PB (va_up q.1 P (k + 1)) (va_up q.2.1 P 0) ((r_mk r P k 0).2.2 0) ((r_mk r P k 0).2.1 1) ((r_mk r P k 0).2.1 2) ((r_mk r P k 0).2.2 1) ((r_mk r P k 0).2.2 2) := by
    have h3 := h.use P 0
    have e1 : (r_mk r P k 0).2.1 1 = r.2.1 1 := h.run hP hk
    have e2 : (r_mk r P k 0).2.1 2 = r.2.1 2 := va_up_id _ _ _ a4
    rw [e1, e2, va_up_id _ _ _ hk]
    exact h3
  have g := jn_all (6 - k) q (r_mk r P k 0) P k T (by omega) hP hs h2 hx2
  have e3 : q_rel q P = q_join (6 - k) q P k := by
    unfold q_rel
    rw [hk, Nat.add_sub_cancel]
  have e4 : r_gvs r P = (upd (r_join (6 - k) (r_mk r P k 0) P k).1 5 (r.1 5 + 1), (r_join (6 - k) (r_mk r P k 0) P k).2) := by
    unfold r_gvs
    rw [a4]
  rw [e3, e4, hk, Nat.add_sub_cancel]
  exact g
