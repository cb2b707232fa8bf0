theorem uf_iff {q : q_T} {p c : Nat} (hp : p < 256) (hu : q.2.1 p ≤ 13) (hc : c < 2 ^ 31 - 2) : j_uf q.1 q.2.1 (nI p) = nI (2 + c) ↔ q.1 p ≠ 0 ∧ q.2.1 p = 2 + c := by
  unfold j_uf
  rw [cl_nI hp]
  by_cases e : q.1 p ≠ 0
  · rw [if_pos ⟨pg_in hp, e⟩, nI_eq (by omega) (by omega)]
    exact ⟨fun z => ⟨e, z⟩, fun z => z.2⟩
  · rw [if_neg (fun z => e z.2)]
    exact ⟨fun z => absurd z.symm (nI_m1 (by omega)), fun z => absurd z.1 e⟩
theorem k_same0 : ∀ x, x < 65 → ∀ y, y < 64 → 64 * x + y < 4097 → k_kf (64 * x + y) 12 0 = k_cls (64 * x + y) ∧ 64 * x + y ≤ k_bytes (k_cls (64 * x + y)) := by decide +kernel
theorem k_same (b : Nat) (h : b < 4097) : k_kf b 12 0 = k_cls b ∧ b ≤ k_bytes (k_cls b) := by
  have h1 := k_same0 (b / 64) (by omega) (b % 64) (by omega)
  rw [show 64 * (b / 64) + b % 64 = b by omega] at h1
  exact h1 h
section
variable {sc td : Nat → Int32} {q : q_T} {nc : Nat} {cf : Nat → Nat → Int32} {S : Nat → Option s_T} {mem : Nat → Nat} {r : r_T}
theorem RLQ.part (h : RLQ sc td q nc cf S mem r) (hs : ¬ sc 0 = 0) {c : Nat} (hc : c < nc) : r_part r c = c_part q S c := by
  have h12 := h.k.2.2
  refine low_find (fun p hp => ?_)
  have hsl := (h.pb hs).sl (by rw [← h.st]; exact hs) hp (h.bq.1.2 p) (show c < 2 ^ 31 by omega)
  have huf := uf_iff (q := q) (p := p) (c := c) hp (h.bq.1.2 p) (by omega)
  rcases opts_cases (S p) with hS | ⟨j, rr, n, ob, f, w, hS⟩
  · rw [c_pg_n hS]
    refine decide_eq_false (fun z => ?_)
    obtain ⟨z1, z2⟩ := hsl.mp z.1
    obtain ⟨c', c1, c2, c3, j, rr, f, w, g, -⟩ := h.tu2 z1 (by omega) hp
    rw [hS] at g
    cases g
  · rw [c_pg_s hS]
    apply decide_eq_decide.mpr
    rw [hsl, huf]
    by_cases e : q.1 p ≠ 0 ∧ q.2.1 p = 2 + c
    · obtain ⟨c', c1, c2, c3, j', rr', f', w', g, g2, -⟩ := h.tu2 e.1 (by omega) hp
      rw [hS, show c' = c by omega] at g
      injection g with g
      injection g with i1 g
      injection g with i2 g
      injection g with i3 g
      injection g with i4 g
      rw [i3, i4]
      constructor
      · rintro ⟨z1, z2, z3⟩; exact ⟨z1, z2, by omega⟩
      · rintro ⟨z1, z2, z3⟩; exact ⟨z1, z2, by omega⟩
    · exact ⟨fun z => absurd z.1 e, fun z => absurd z.1 e⟩
theorem RLQ.tu_uf (h : RLQ sc td q nc cf S mem r) {p c : Nat} (hp : p < 256) (hc : c < nc) (hu : j_uf q.1 q.2.1 (nI p) = nI (2 + c)) : tu q p = 2 + c := by
  have h12 := h.k.2.2
  obtain ⟨h1, h2⟩ := (uf_iff hp (h.bq.1.2 p) (by omega)).mp hu
  rw [tu_of h1]; exact h2
theorem RLQ.emp (h : RLQ sc td q nc cf S mem r) {c P : Nat} (hc : c < nc) (hP : P < 256) (h8 : cf c 8 = nI P) : tu q P = 2 + c ∧ r.2.1 4 P = r_ob r c ∧ r.2.2 3 c = nI P := by
  obtain ⟨-, -, -, -, c8, cE⟩ := h.c c hc
  rcases cE with cE | ⟨E, e1, e2, e3, e4⟩
  · rw [h8] at cE
    exact absurd cE (nI_m1 (by omega))
  · rw [h8] at e2
    have := (nI_eq (by omega) (by omega)).mp e2
    subst this
    exact ⟨e3, e4, by rw [← c8]; exact h8⟩
/-- what is live by size at an address -/
def DL (q : q_T) (S : Nat → Option s_T) (r : r_T) (nc a P : Nat) : Prop := a < 16384 ∧ P < 256 ∧ ((∃ c i j rr n f w, c < 6 ∧ c < nc ∧ tu q P = 2 + c ∧ a = 64 * P + i * r.2.1 7 c ∧ i < r_ob r c ∧ S P = some (j, rr, n, r_ob r c, f, w) ∧ lb w i = true) ∨ (tu q P = 1 ∧ a = 64 * P))
theorem r_to_na (r : r_T) (P i : Nat) (h : 5 ≤ i) : (r_to2 r P).2.1 i = r.2.1 i := va_up_ne _ _ (by omega)
theorem r_ns_na (r : r_T) (c i : Nat) (h : 5 ≤ i) : (r_nsS r c).2.1 i = r.2.1 i := by
  unfold r_nsS
  split
  · exact (tks_SA r _ i (by omega) (by omega)).1
  · show va_up (va_up _ 3 _) 4 _ i = _
    rw [va_up_ne _ _ (by omega), va_up_ne _ _ (by omega)]
    exact (tks_SA r _ i (by omega) (by omega)).1
theorem r_toS_na (r : r_T) (c i : Nat) (h : 5 ≤ i) : (r_toS r c).2.1 i = r.2.1 i := by
  have h1 : (r_to1 r c).2.1 i = r.2.1 i := by
    unfold r_to1
    split
    · rfl
    · split
      · rfl
      · exact r_ns_na r c i h
  unfold r_toS
  split
  · exact h1
  · rw [r_to_na _ _ _ h]; exact h1
theorem r_alS_na (r : r_T) (b i : Nat) (h : 5 ≤ i) : (r_alS r b).2.1 i = r.2.1 i := by
  unfold r_alS
  split
  · exact r_toS_na r _ i h
  · exact (tks_SA r _ i (by omega) (by omega)).1
/-- take -/
theorem RLQ.take (h : RLQ sc td q nc cf S mem r) (hs : ¬ sc 0 = 0) {c : Nat} (hc : c < nc) {x : Int32} {sc' : Nat → Int32} {q' : q_T} {cf' : Nat → Nat → Int32} {S' : Nat → Option s_T} (hT : T_take (r.2.1 7) (r.2.1 8) (r_ob r) sc q cf S c x sc' q' cf' S') :
    x = oI (r_toO r c) ∧ RLQ sc' td q' nc cf' S' mem (r_toS r c) ∧ (x = -1 ∨ ∃ P i j rr n f w, P < 256 ∧ x = nI (64 * P + i * r.2.1 7 c) ∧ i < r_ob r c ∧ tu q' P = 2 + c ∧ S' P = some (j, rr, n, r_ob r c, f, w) ∧ lb w i = true) ∧ (∀ p, tu q p ≠ 0 → tu q p ≠ 2 + c → tu q' p = tu q p ∧ to q' p = to q p ∧ S' p = S p) ∧ (∀ t, r_toO r c = some t → t < 2 ^ 31) := by
  have hpt := h.part hs hc
  have h12 := h.k.2.2
  obtain ⟨k1, k2, k3, k4, k5, k6⟩ := (h.c c hc).2.1
  have fin : ∀ {P j rr n ob : Nat} {f : Nat → Nat} {w : Int64}, P < 256 → tu q P = 2 + c → S P = some (j, rr, n, ob, f, w) → 1 ≤ n → ob = r_ob r c ∧ f (n - 1) < r_ob r c := fun {P j rr n ob f w} hP hu hS hn => by
    obtain ⟨c', c1, c2, c3, j', rr', f', w', s1, s2, s3, -⟩ := h.t.1 P hP (by omega)
    rw [hS, show c' = c by omega] at s1
    rw [show c' = c by omega] at s3
    injection s1 with s1
    injection s1 with i1 s1
    injection s1 with i2 s1
    injection s1 with i3 s1
    injection s1 with i4 s1
    injection s1 with i5 i6
    subst i5
    exact ⟨i4, (s3 (n - 1) (by omega)).2⟩
  rcases hT with ⟨P, j, rr, n, ob, f, w, hw, hP, hS, hn, rfl, rfl, rfl, rfl, rfl⟩ | ⟨hp0, h8, hjt, rfl, rfl, rfl, rfl, rfl⟩ | ⟨P, j, rr, f, hp0, h8, hjt, hP, hf1, rfl, rfl, rfl, rfl, rfl⟩
  · rcases hw with hw | ⟨hw, h8⟩
    · have hu : tu q' P = 2 + c := by
        obtain ⟨-, j', r', n', ob', f', w', g1, g2, -⟩ := c_part_some hw
        exact h.tu_uf hP hc g2
      have hlt : n < ob := by
        obtain ⟨-, j', r', n', ob', f', w', g1, g2, g3, g4⟩ := c_part_some hw
        rw [hS] at g1
        injection g1 with g1
        injection g1 with i1 g1
        injection g1 with i2 g1
        injection g1 with i3 g1
        injection g1 with i4 g1
        omega
      have hob := fin hP hu hS hn
      have h8 : ¬ cf c 8 = nI P := fun z => by
        have h9 := (h.emp hc hP z).2.1
        obtain ⟨c', c1, c2, c3, j', rr', f', w', s1, -⟩ := h.t.1 P hP (by omega)
        rw [hS, show c' = c by omega] at s1
        injection s1 with s1
        injection s1 with i1 s1
        injection s1 with i2 s1
        injection s1 with i3 s1
        omega
      obtain ⟨g1, g2, g3, g4⟩ := h.tko hP hc hu hS hn h8
      have e1 : r_toP r c = some P := by unfold r_toP; rw [hpt, hw]
      have e2 : r_to1 r c = r := by unfold r_to1; rw [hpt, hw]
      have e3 : c_tk (cf c) P = upd (cf c) 7 (cf c 7 + 1) := by unfold c_tk; rw [if_neg (fun z => h8 z.symm)]
      refine ⟨?_, ?_, Or.inr ⟨P, f (n - 1), j, rr, n - 1, f, l_set w (f (n - 1)), hP, by rw [Nat.mul_comm P 64], hob.2, hu, by rw [va_up_self, hob.1], ?_⟩, fun p _ hp => ⟨rfl, rfl, va_up_ne _ _ (fun z => hp (by rw [z]; exact hu))⟩, fun t ht => by
        unfold r_toO at ht
        rw [e1, e2] at ht
        have ht : some _ = some t := ht
        injection ht with ht
        rw [← g1, ← g3] at ht
        have hm : r.2.1 7 c * f (n - 1) ≤ 65536 * 64 := Nat.mul_le_mul (by omega) (by omega)
        omega⟩
      · unfold r_toO
        rw [e1, e2]
        show nI _ = nI _
        rw [← g1, ← g3, Nat.mul_comm P 64, Nat.mul_comm (f (n - 1))]
      · unfold r_toS
        rw [e1, e2, e3]
        exact g4
      · unfold l_set
        rw [lb_set (by omega) (by omega)]
        simp
    · obtain ⟨hu, h4, h3⟩ := h.emp hc hP h8
      have hob := fin hP hu hS hn
      have hE := h.e8 (c := c) (x := -1) hc (Or.inl rfl)
      obtain ⟨g1, g2, g3, g4⟩ := hE.tko hP hc hu hS hn (by rw [va_up_self, upd_self]; exact fun z => nI_m1 (n := P) (by omega) z.symm)
      have h0 : 0 ≤ r.2.2 3 c := by rw [h3]; exact nI_pos' (by omega)
      have e1 : r_toP r c = some P := by
        unfold r_toP
        rw [hpt, hw]
        show (if 0 ≤ r.2.2 3 c then some (r.2.2 3 c).toNatClampNeg else r_tk r (r.2.1 8 c)) = _
        rw [if_pos h0, h3, nI_clamp (by omega)]
      have e2 : r_to1 r c = r_e8 r c (-1) := by
        unfold r_to1
        rw [hpt, hw]
        show (if 0 ≤ r.2.2 3 c then _ else r_nsS r c) = _
        rw [if_pos h0]
        rfl
      have e3 : c_tk (cf c) P = upd (upd (cf c) 8 (-1)) 7 (cf c 7 + 1) := by unfold c_tk; rw [if_pos h8.symm]
      refine ⟨?_, ?_, Or.inr ⟨P, f (n - 1), j, rr, n - 1, f, l_set w (f (n - 1)), hP, by rw [Nat.mul_comm P 64], hob.2, hu, by rw [va_up_self, hob.1], ?_⟩, fun p _ hp => ⟨rfl, rfl, va_up_ne _ _ (fun z => hp (by rw [z]; exact hu))⟩, fun t ht => by
        unfold r_toO at ht
        rw [e1, e2] at ht
        have ht : some _ = some t := ht
        injection ht with ht
        rw [← g1, ← g3] at ht
        have hm : r.2.1 7 c * f (n - 1) ≤ 65536 * 64 := Nat.mul_le_mul (by omega) (by omega)
        omega⟩
      · unfold r_toO
        rw [e1, e2]
        show nI _ = nI _
        rw [← g1, ← g3, Nat.mul_comm P 64, Nat.mul_comm (f (n - 1))]
      · unfold r_toS
        rw [e1, e2, e3]
        rw [va_up_up, va_up_self] at g4
        exact g4
      · unfold l_set
        rw [lb_set (by omega) (by omega)]
        simp
  · have h3 : r.2.2 3 c = -1 := by rw [← (h.c c hc).2.2.2.2.1]; exact h8
    have htk : r_tk r (r.2.1 8 c) = none := by rw [← (h.pg hs (show r.2.1 8 c ≤ 6 by omega)).1]; exact hjt
    have hnn : ¬ 0 ≤ r.2.2 3 c := by rw [h3]; decide
    have e1 : r_toP r c = none := by
      unfold r_toP
      rw [hpt, hp0]
      show (if 0 ≤ r.2.2 3 c then some (r.2.2 3 c).toNatClampNeg else r_tk r (r.2.1 8 c)) = _
      rw [if_neg hnn, htk]
    have e2 : r_to1 r c = (upd (upd r.1 2 (r_arm (r.1 2))) 3 (r.1 3 + 1), r.2) := by
      unfold r_to1
      rw [hpt, hp0]
      show (if 0 ≤ r.2.2 3 c then _ else r_nsS r c) = _
      rw [if_neg hnn]
      unfold r_nsS
      rw [htk]
      show r_tks r (r.2.1 8 c) = _
      unfold r_tks
      rw [htk]
    refine ⟨?_, ?_, Or.inl rfl, fun p _ _ => ⟨rfl, rfl, rfl⟩, fun t ht => by unfold r_toO at ht; rw [e1] at ht; cases ht⟩
    · unfold r_toO
      rw [e1]
      rfl
    · unfold r_toS
      rw [e1, e2]
      exact h.miss
  · have h3 : r.2.2 3 c = -1 := by rw [← (h.c c hc).2.2.2.2.1]; exact h8
    have hnn : ¬ 0 ≤ r.2.2 3 c := by rw [h3]; decide
    obtain ⟨n1, n2, n3, ⟨n5, n6⟩, n4⟩ := h.news hs hc (j := j) (rr := rr) hjt hf1
    obtain ⟨g1, g2, g3, g4⟩ := n4.tko hP hc n3 (va_up_self _ _ _) k4 (by rw [va_up_self, upd_ne _ _ (by decide), h8]; exact fun z => nI_m1 (n := P) (by omega) z.symm)
    have hf0 : f (r_ob r c - 1) = 0 := by rw [hf1 _ (by omega)]; omega
    have e1 : r_toP r c = some P := by
      unfold r_toP
      rw [hpt, hp0]
      show (if 0 ≤ r.2.2 3 c then some (r.2.2 3 c).toNatClampNeg else r_tk r (r.2.1 8 c)) = _
      rw [if_neg hnn, n2]
    have e2 : r_to1 r c = r_nsS r c := by
      unfold r_to1
      rw [hpt, hp0]
      show (if 0 ≤ r.2.2 3 c then _ else r_nsS r c) = _
      rw [if_neg hnn]
    refine ⟨?_, ?_, Or.inr ⟨P, 0, j, rr, r_ob r c - 1, f, l_set 0 0, hP, by rw [Nat.zero_mul, Nat.add_zero, Nat.mul_comm], by omega, n3, va_up_self _ _ _, ?_⟩, fun p hp _ => ⟨(n6 p (fun z => hp (by rw [z]; exact n5))).1, (n6 p (fun z => hp (by rw [z]; exact n5))).2, va_up_ne _ _ (fun z => hp (by rw [z]; exact n5))⟩, fun t ht => by
        unfold r_toO at ht
        rw [e1, e2] at ht
        have ht : some _ = some t := ht
        injection ht with ht
        rw [← g1, ← g3, hf0, Nat.mul_zero] at ht
        omega⟩
    · unfold r_toO
      rw [e1, e2]
      show nI _ = nI _
      rw [← g1, ← g3, hf0, Nat.mul_zero, Nat.add_zero, Nat.mul_comm]
    · unfold r_toS
      rw [e1, e2]
      rw [va_up_up, va_up_up, va_up_self, hf0] at g4
      exact g4
    · unfold l_set
      rw [lb_set (by omega) (by omega)]
      simp
end
