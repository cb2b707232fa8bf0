theorem PB.sumF {q : q_T} {r : r_T} {co : Nat → Int32} (h : PB q.1 q.2.1 (r.2.2 0) (r.2.1 1) (r.2.1 2) (r.2.2 1) co) (hs : ¬ r.1 0 = 0) : r_sum (fun p => if r_free r p = true then 2 ^ r.2.1 2 p else 0) 256 = r_sum (gF q.1 q.2.1) 256 := by
  refine r_sum_cg 256 (fun p hp => ?_)
  by_cases e : q.1 p ≠ 0 ∧ q.2.1 p = 0
  · rw [if_pos ((h.fr hs hp).mpr e), (h.1 p hp e.1).2.2.2.1]
    exact (if_pos e).symm
  · rw [if_neg (fun z => e ((h.fr hs hp).mp z))]
    exact (if_neg e).symm
theorem arm_ok {sc : Nat → Int32} (h : sc 7 = -1 ∨ (0 ≤ sc 7 ∧ sc 7 ≤ 100)) : s_arm sc 7 = r_arm (sc 7) ∧ (s_arm sc 7 = -1 ∨ (0 ≤ s_arm sc 7 ∧ s_arm sc 7 ≤ 100)) := by
  unfold s_arm r_arm
  rcases h with h | h
  · rw [if_pos h, h]
    exact ⟨by decide, Or.inl rfl⟩
  · have h1 : ¬ sc 7 = -1 := fun z => by rw [z] at h; exact absurd h.1 (by decide)
    rw [if_neg h1, if_neg (Int32.not_lt.mpr h.1)]
    refine ⟨upd_self _ _ _, ?_⟩
    rw [upd_self]
    obtain ⟨k, hk, e⟩ := in_of (M := 100) (by decide) h
    rw [e]
    rcases Nat.eq_zero_or_pos k with z | z
    · left; rw [z]; decide
    · right
      rw [show nI k - 1 = nI (k - 1) from pk_sub (b := 1) z]
      exact in_nI (M := 100) (by decide) (by omega)
theorem arm_ne {sc : Nat → Int32} {i : Nat} (h : i ≠ 7) : s_arm sc i = sc i := by
  unfold s_arm
  split
  · rfl
  · exact upd_ne _ _ h
def SA (r r' : r_T) : Prop := ∀ i, i ≠ 1 → i ≠ 2 → r'.2.1 i = r.2.1 i ∧ r'.2.2 i = r.2.2 i
section
variable {sc td : Nat → Int32} {q : q_T} {nc : Nat} {cf : Nat → Nat → Int32} {S : Nat → Option s_T} {mem : Nat → Nat} {r : r_T}
theorem RLQ.miss (h : RLQ sc td q nc cf S mem r) : RLQ (s_miss (s_arm sc)) td q nc cf S mem (upd (upd r.1 2 (r_arm (r.1 2))) 3 (r.1 3 + 1), r.2) := by
  obtain ⟨⟨⟨n0, n0'⟩, n1, n2, n3, n4, n5, n6, ⟨n7, n7'⟩, n8⟩, hq, ht, hc, hm⟩ := h
  have ha := arm_ok n7'
  rw [n7] at ha
  have hq2 : ∀ i, i ≠ 4 → i ≠ 7 → s_miss (s_arm sc) i = sc i := fun i h1 h2 => by
    unfold s_miss
    rw [upd_ne _ _ h1, arm_ne h2]
  refine ⟨⟨⟨?_, ?_⟩, n1, ?_, ?_, ?_, ?_, ?_, ⟨?_, ?_⟩, n8⟩, ?_, ht, hc, hm⟩
  · rw [hq2 0 (by decide) (by decide)]; exact n0
  · rw [hq2 0 (by decide) (by decide)]; exact n0'
  · rw [hq2 1 (by decide) (by decide)]; exact n2
  · rw [hq2 3 (by decide) (by decide)]; exact n3
  · show upd (s_arm sc) 4 (s_arm sc 4 + 1) 4 = r.1 3 + 1
    rw [upd_self, arm_ne (by decide), n4]
  · rw [hq2 5 (by decide) (by decide)]; exact n5
  · rw [hq2 6 (by decide) (by decide)]; exact n6
  · show upd (s_arm sc) 4 (s_arm sc 4 + 1) 7 = r_arm (r.1 2)
    rw [upd_ne _ _ (by decide)]; exact ha.1
  · show upd (s_arm sc) 4 (s_arm sc 4 + 1) 7 = -1 ∨ (0 ≤ upd (s_arm sc) 4 (s_arm sc 4 + 1) 7 ∧ upd (s_arm sc) 4 (s_arm sc 4 + 1) 7 ≤ 100)
    rw [upd_ne _ _ (by decide)]; exact ha.2
  · unfold R_q
    rw [hq2 0 (by decide) (by decide), hq2 2 (by decide) (by decide)]
    exact hq
theorem RLQ.got (h : RLQ sc td q nc cf S mem r) (hs : ¬ sc 0 = 0) {k P u : Nat} (hk : k ≤ 6) (ht : j_take sc q k = some P) (hu : 1 ≤ u) (hu2 : u ≤ 13) {r' : r_T} (e1 : r'.1 = (r_tks r k).1) (e2 : r'.2.1 1 = (r_tks r k).2.1 1) (e3 : r'.2.1 2 = (r_tks r k).2.1 2) (e4 : r'.2.2 0 = r.2.2 0) (e5 : r'.2.2 1 = (r_tks r k).2.2 1) (e6 : r'.2.2 2 = upd ((r_tks r k).2.2 2) P (if u ≤ 1 then -1 else nI (u - 2))) :
    R_n (s_got (s_arm sc) k) td nc r' ∧ R_q (s_got (s_arm sc) k) (q_got q P k u) r' ∧ (∀ G p, tg G (q_got q P k u) p = va_up (tg G q) P (G (k + 1) u) p) ∧ P < 256 ∧ tu q P = 0 ∧ r_tk r k = some P := by
  obtain ⟨⟨⟨n0, n0'⟩, ⟨n1, n1'⟩, n2, n3, n4, n5, n6, ⟨n7, n7'⟩, n8⟩, ⟨⟨b1, b2⟩, ⟨b3, b4⟩, ⟨T, hQ, h2⟩, -, hpb⟩, -, -, -⟩ := h
  have hb := hpb hs
  rw [n0] at hs
  have htk : r_tk r k = some P := by rw [← hb.tk hs hQ n7 hk]; exact ht
  have htl : P < 256 ∧ q.2.1 P = 0 ∧ k + 1 ≤ q.1 P := by
    unfold j_take at ht
    split at ht
    · cases ht
    · have h9 := q_lp_lt 256 0 P ht
      have h8 := q_lo_ge (fc := q.2.2) (6 - k) k
      exact ⟨by omega, h9.2.2.2, by omega⟩
  obtain ⟨hP, hf, hk1⟩ := htl
  obtain ⟨g1, ⟨T', g2, g3⟩, g4⟩ := got_all (r := (upd r.1 2 (r_arm (r.1 2)), r.2)) hP hk1 (show u ≠ 0 by omega) hf hb hQ
  have hA := hb.1 P hP (by omega)
  have hPe := bk_end _ (by omega) P hP hA.2.1
  have ha := arm_ok n7'
  rw [n7] at ha
  have e0 : r_tks r k = (upd (upd (r_got (upd r.1 2 (r_arm (r.1 2)), r.2) P k).1 4 (r.1 4 + 1)) 6 (if r.1 6 < r_used (r_got (upd r.1 2 (r_arm (r.1 2)), r.2) P k) then r_used (r_got (upd r.1 2 (r_arm (r.1 2)), r.2) P k) else r.1 6), (r_got (upd r.1 2 (r_arm (r.1 2)), r.2) P k).2) := by
    unfold r_tks
    rw [htk]
  rw [e0] at e1 e2 e3 e5 e6
  dsimp only at e1 e2 e3 e5 e6
  have hna := r_got_na (r := (upd r.1 2 (r_arm (r.1 2)), r.2)) (P := P) (k := k) (i := 0) (by decide) (by decide)
  have hsc : (r_got (upd r.1 2 (r_arm (r.1 2)), r.2) P k).1 = upd r.1 2 (r_arm (r.1 2)) := r_got_sc _ _ _
  have hus : r_used (r_got (upd r.1 2 (r_arm (r.1 2)), r.2) P k) = sc 1 - (sc 2 - nI (2 ^ k)) := by
    unfold r_used
    rw [PB.sumF (q := q_got q P k u) (co := upd ((r_got (upd r.1 2 (r_arm (r.1 2)), r.2) P k).2.2 2) P (if u ≤ 1 then -1 else nI (u - 2))) (by rw [hna.2]; exact g1) (by rw [hsc]; exact hs), g3.2, hna.2, h2, n2, n1, show nI T - nI (2 ^ k) = nI T' by rw [pk_sub (by omega)]; congr 1; omega]
    rfl
  rw [hsc, hus] at e1
  generalize hgr : r_got (upd r.1 2 (r_arm (r.1 2)), r.2) P k = g at *
  have s5 : ∀ i, i ≠ 2 → i ≠ 3 → i ≠ 5 → s_got (s_arm sc) k i = s_arm sc i := fun i i2 i3 i5 => by
    unfold s_got
    rw [upd_ne _ _ i3, upd_ne _ _ i2, upd_ne _ _ i5]
  have s0 : s_got (s_arm sc) k 0 = sc 0 := by rw [s5 0 (by decide) (by decide) (by decide), arm_ne (by decide)]
  have s2 : s_got (s_arm sc) k 2 = sc 2 - nI (2 ^ k) := by
    unfold s_got
    rw [upd_ne _ _ (by decide), upd_self, arm_ne (by decide)]
  have s3 : s_got (s_arm sc) k 3 = if sc 3 < sc 1 - (sc 2 - nI (2 ^ k)) then sc 1 - (sc 2 - nI (2 ^ k)) else sc 3 := by
    unfold s_got
    rw [upd_self, arm_ne (by decide), arm_ne (by decide), arm_ne (by decide)]
  have s5' : s_got (s_arm sc) k 5 = sc 5 + 1 := by
    unfold s_got
    rw [upd_ne _ _ (by decide), upd_ne _ _ (by decide), upd_self, arm_ne (by decide)]
  refine ⟨⟨⟨?_, ?_⟩, ⟨?_, n1'⟩, ?_, ?_, ?_, ?_, ?_, ⟨?_, ?_⟩, ?_, n8.2⟩, ⟨?_, ?_, ⟨T', g3, ?_⟩, ?_, ?_⟩, g4, hP, ?_, htk⟩
  · rw [s0, e1, upd_ne _ _ (by decide), upd_ne _ _ (by decide), upd_ne _ _ (by decide)]; exact n0
  · rw [s0]; exact n0'
  · rw [e4]; exact n1
  · rw [s5 1 (by decide) (by decide) (by decide), arm_ne (by decide)]; exact n2
  · rw [s3, e1, upd_self, n3]
  · rw [s5 4 (by decide) (by decide) (by decide), arm_ne (by decide), e1, upd_ne _ _ (by decide), upd_ne _ _ (by decide), upd_ne _ _ (by decide)]; exact n4
  · rw [s5', e1, upd_ne _ _ (by decide), upd_self, n5]
  · rw [s5 6 (by decide) (by decide) (by decide), arm_ne (by decide), e1, upd_ne _ _ (by decide), upd_ne _ _ (by decide), upd_ne _ _ (by decide)]; exact n6
  · rw [s5 7 (by decide) (by decide) (by decide), e1, upd_ne _ _ (by decide), upd_ne _ _ (by decide), upd_self]; exact ha.1
  · rw [s5 7 (by decide) (by decide) (by decide)]; exact ha.2
  · rw [e1, upd_ne _ _ (by decide), upd_ne _ _ (by decide), upd_ne _ _ (by decide)]; exact n8.1
  · exact q_got_b hk1 hu2 b1 b2
  · rw [e2, e3, ← hgr]
    exact r_got_b (by show P + 2 ^ r.2.1 2 P ≤ 256; rw [hA.2.2.2.1]; exact hPe) (by show k ≤ r.2.1 2 P; rw [hA.2.2.2.1]; omega) b3 b4
  · rw [s2, h2, pk_sub (by omega)]; congr 1; omega
  · intro z
    rw [s0, n0] at z
    exact absurd z hs
  · intro _
    rw [e2, e3, e4, e5, e6]
    exact g1
  · rw [tu_of (by omega)]; exact hf
theorem RLQ.rel (h : RLQ sc td q nc cf S mem r) {P : Nat} (hP : P < 256) (hu : tu q P ≠ 0) : R_n (s_rel sc (q.1 P - 1)) td nc (r_gvs r P) ∧ R_q (s_rel sc (q.1 P - 1)) (q_rel q P) (r_gvs r P) ∧ ∀ G p, tg G (q_rel q P) p = va_up (tg G q) P 0 p := by
  have hpos := tu_pos hu
  have hs := h.on hpos.1
  obtain ⟨⟨⟨n0, n0'⟩, ⟨n1, n1'⟩, n2, n3, n4, n5, n6, ⟨n7, n7'⟩, n8⟩, ⟨⟨b1, b2⟩, ⟨b3, b4⟩, ⟨T, hQ, h2⟩, -, hpb⟩, -, -, -⟩ := h
  have hb := hpb hs
  have hs' := hs
  rw [n0] at hs'
  obtain ⟨g1, g2, g3⟩ := rel_all hP hpos.1 (by rw [hpos.2.1]; exact hu) hs' hb hQ
  have e1 : (r_gvs r P).1 = upd r.1 5 (r.1 5 + 1) := by
    show upd (r_join _ _ _ _).1 5 (r.1 5 + 1) = _
    rw [r_join_sc]
    rfl
  have e0 : (r_gvs r P).2.2 0 = r.2.2 0 := (r_gvs_na (by decide) (by decide)).2
  have sne : ∀ i, i ≠ 2 → i ≠ 6 → s_rel sc (q.1 P - 1) i = sc i := fun i i2 i6 => by
    unfold s_rel
    rw [upd_ne _ _ i2, upd_ne _ _ i6]
  have s2 : s_rel sc (q.1 P - 1) 2 = sc 2 + nI (2 ^ (q.1 P - 1)) := by
    unfold s_rel
    rw [upd_self]
  have s6 : s_rel sc (q.1 P - 1) 6 = sc 6 + 1 := by
    unfold s_rel
    rw [upd_ne _ _ (by decide), upd_self]
  refine ⟨⟨⟨?_, ?_⟩, ⟨?_, n1'⟩, ?_, ?_, ?_, ?_, ?_, ⟨?_, ?_⟩, ?_, n8.2⟩, ⟨?_, ?_, ⟨_, g2, ?_⟩, ?_, ?_⟩, g3⟩
  · rw [sne 0 (by decide) (by decide), e1, upd_ne _ _ (by decide)]; exact n0
  · rw [sne 0 (by decide) (by decide)]; exact n0'
  · rw [e0]; exact n1
  · rw [sne 1 (by decide) (by decide)]; exact n2
  · rw [sne 3 (by decide) (by decide), e1, upd_ne _ _ (by decide)]; exact n3
  · rw [sne 4 (by decide) (by decide), e1, upd_ne _ _ (by decide)]; exact n4
  · rw [sne 5 (by decide) (by decide), e1, upd_ne _ _ (by decide)]; exact n5
  · rw [s6, e1, upd_self, n6]
  · rw [sne 7 (by decide) (by decide), e1, upd_ne _ _ (by decide)]; exact n7
  · rw [sne 7 (by decide) (by decide)]; exact n7'
  · rw [e1, upd_ne _ _ (by decide)]; exact n8.1
  · exact q_rel_b hpos.1 b1 b2
  · exact r_gvs_b hP b3 b4
  · rw [s2, h2]; exact nI_add _ _
  · intro z
    rw [sne 0 (by decide) (by decide)] at z
    exact absurd z hs
  · intro _
    rw [e0]
    exact g1
end
