theorem rowf_at (b m : Nat) : ∀ (n k : Nat) (f : Nat → Nat) (x : Nat), r_rowf b m n k f x = if b + k ≤ x ∧ x < b + k + n then m - 1 - (x - b) else f x := by
  intro n
  induction n with
  | zero => intro k f x; rw [if_neg (by omega)]; rfl
  | succ n ih =>
    intro k f x
    show r_rowf b m n (k + 1) (va_up f (b + k) (m - 1 - k)) x = _
    rw [ih]
    by_cases e : x = b + k
    · rw [if_neg (by omega), if_pos (by omega), e, va_up_self, Nat.add_sub_cancel_left]
    · rw [va_up_ne _ _ e]
      by_cases e2 : b + (k + 1) ≤ x ∧ x < b + (k + 1) + n
      · rw [if_pos e2, if_pos (by omega)]
      · rw [if_neg e2, if_neg (by omega)]
theorem tg_same {q : q_T} {G : Nat → Nat → Nat} (P : Nat) : ∀ p, tg G q p = va_up (tg G q) P (tg G q P) p := fun p => by
  by_cases e : p = P
  · rw [e, va_up_self]
  · rw [va_up_ne _ _ e]
section
variable {sc td : Nat → Int32} {q : q_T} {nc : Nat} {cf : Nat → Nat → Int32} {S : Nat → Option s_T} {mem : Nat → Nat} {r : r_T}
/-- a new slab -/
theorem RLQ.news (h : RLQ sc td q nc cf S mem r) (hs : ¬ sc 0 = 0) {c P j rr : Nat} {f : Nat → Nat} (hc : c < nc) (ht : j_take sc q (r.2.1 8 c) = some P) (hf1 : ∀ i, i < r_ob r c → f i = r_ob r c - 1 - i) :
    P < 256 ∧ r_tk r (r.2.1 8 c) = some P ∧ tu (q_got q P (r.2.1 8 c) (2 + c)) P = 2 + c ∧ (tu q P = 0 ∧ ∀ p, p ≠ P → tu (q_got q P (r.2.1 8 c) (2 + c)) p = tu q p ∧ to (q_got q P (r.2.1 8 c) (2 + c)) p = to q p) ∧ RLQ (s_got (s_arm sc) (r.2.1 8 c)) td (q_got q P (r.2.1 8 c) (2 + c)) nc (va_up cf c (upd (cf c) 6 (cf c 6 + 1))) (va_up S P (some (j, rr, r_ob r c, r_ob r c, f, 0))) mem (r_nsS r c) := by
  have h12 := h.k.2.2
  obtain ⟨k1, k2, k3, k4, k5, k6⟩ := (h.c c hc).2.1
  have htk : r_tk r (r.2.1 8 c) = some P := by
    obtain ⟨T, hQ, -⟩ := h.qc
    rw [← (h.pb hs).tk (sc := sc) (by rw [← h.st]; exact hs) hQ h.n.2.2.2.2.2.2.2.1.1 (by omega)]
    exact ht
  have er : r_nsS r c = r_ns1 (r_tks r (r.2.1 8 c)) P c (r_ob r c) := by
    unfold r_nsS
    rw [htk]
  have hSA := tks_SA r (r.2.1 8 c)
  rw [er]
  generalize htt : r_tks r (r.2.1 8 c) = t at *
  have e6 : (r_ns1 t P c (r_ob r c)).2.2 2 = upd (t.2.2 2) P (if 2 + c ≤ 1 then -1 else nI (2 + c - 2)) := by
    rw [if_neg (by omega), Nat.add_sub_cancel_left]
    rfl
  obtain ⟨g1, g2, g3, g4, g5, -⟩ := h.got hs (by omega) ht (show 1 ≤ 2 + c by omega) (by omega) (r' := r_ns1 t P c (r_ob r c)) (by rw [htt]; rfl) (by rw [htt]; rfl) (by rw [htt]; rfl) ((hSA 0 (by decide) (by decide)).2) (by rw [htt]; rfl) (by rw [htt]; exact e6)
  have hf : ∀ p, tu (q_got q P (r.2.1 8 c) (2 + c)) p = va_up (tu q) P (2 + c) p := g3 _
  have hf2 : ∀ p, to (q_got q P (r.2.1 8 c) (2 + c)) p = va_up (to q) P (r.2.1 8 c + 1) p := g3 _
  have a3 : (r_ns1 t P c (r_ob r c)).2.1 3 = r_rowf (64 * P) (r_ob r c) (r_ob r c) 0 (r.2.1 3) := by rw [← (hSA 3 (by decide) (by decide)).1]; rfl
  have a4 : (r_ns1 t P c (r_ob r c)).2.1 4 = va_up (r.2.1 4) P (r_ob r c) := by rw [← (hSA 4 (by decide) (by decide)).1]; rfl
  have a5 : ∀ i, 5 ≤ i → i ≤ 8 → (r_ns1 t P c (r_ob r c)).2.1 i = r.2.1 i := fun i i1 i2 => by
    show va_up (va_up t.2.1 3 _) 4 _ i = _
    rw [va_up_ne _ _ (by omega), va_up_ne _ _ (by omega)]
    exact (hSA i (by omega) (by omega)).1
  have b3 : (r_ns1 t P c (r_ob r c)).2.2 3 = r.2.2 3 := (hSA 3 (by decide) (by decide)).2
  have hob : ∀ c', r_ob (r_ns1 t P c (r_ob r c)) c' = r_ob r c' := fun c' => by
    show 64 * 2 ^ (r_ns1 t P c (r_ob r c)).2.1 8 c' / (r_ns1 t P c (r_ob r c)).2.1 7 c' = _
    rw [a5 7 (by decide) (by decide), a5 8 (by decide) (by decide)]
    rfl
  refine ⟨g4, htk, by rw [hf P, va_up_self], ⟨g5, fun p hp => ⟨by rw [hf p, va_up_ne _ _ hp], by rw [hf2 p, va_up_ne _ _ hp]⟩⟩, g1, g2, ⟨fun p hp h2 => ?_, ?_, ?_, ?_⟩, fun c' hc' => ?_, ?_⟩
  · rw [hf p] at h2 ⊢
    rw [hf2 p, a5 8 (by decide) (by decide)]
    by_cases e : p = P
    · subst e
      rw [va_up_self, va_up_self]
      refine ⟨c, hc, rfl, rfl, ?_⟩
      rw [hob]
      unfold R_sl
      rw [a4, a3, va_up_self, va_up_self]
      refine ⟨j, rr, f, 0, rfl, Nat.le_refl _, fun i hi => ⟨?_, ?_⟩, fun a b h1 h2 => ?_, fun i hi => ?_, ?_⟩
      · rw [rowf_at, if_pos (by omega), Nat.add_sub_cancel_left]; exact hf1 i hi
      · rw [hf1 i hi]; omega
      · rw [hf1 a (by omega), hf1 b h2]; omega
      · rw [lb_0]
        constructor
        · intro z; cases z
        · intro z
          exact absurd (show f (r_ob r c - 1 - i) = i by rw [hf1 _ (by omega)]; omega) (z _ (by omega))
      · rw [r_sum_0 _ (fun i _ => by unfold gB; rw [lb_0]; rfl), Nat.zero_add]
    · rw [va_up_ne _ _ e] at h2 ⊢
      rw [va_up_ne _ _ e]
      obtain ⟨c', c1, c2, c3, c4⟩ := h.t.1 p hp h2
      refine ⟨c', c1, c2, c3, ?_⟩
      rw [hob]
      refine c4.cg (va_up_ne _ _ e) (by rw [a4, va_up_ne _ _ e]) (fun i hi => ?_) (h.c c' c1).2.1.2.2.2.2.1
      rw [a3, rowf_at, if_neg (by omega)]
  · intro p j' r' n' ob' f' w' hp
    by_cases e : p = P
    · subst e
      rw [va_up_self] at hp
      cases hp
      exact ⟨Nat.le_refl _, k5, fun i hi => by rw [hf1 i hi]; omega⟩
    · rw [va_up_ne _ _ e] at hp
      exact h.t.2.1 _ _ _ _ _ _ _ hp
  · intro i
    rw [a3, rowf_at]
    split
    · omega
    · exact h.t.2.2.1 i
  · intro p
    rw [a4]
    unfold va_up
    split
    · exact k5
    · exact h.t.2.2.2 p
  · by_cases e : c' = c
    · subst e
      rw [va_up_self]
      obtain ⟨⟨d0, d1, d2, d3, d4, d5⟩, b, c6, c7, c8, cE⟩ := h.c c' hc'
      refine ⟨⟨d0, ?_, ?_, ?_, ?_, ?_⟩, b.cg (by rw [a5 7 (by decide) (by decide)]) (by rw [a5 8 (by decide) (by decide)]), ?_, ?_, ?_, ?_⟩
      · rw [a5 5 (by decide) (by decide)]; exact d1
      · rw [a5 6 (by decide) (by decide)]; exact d2
      · rw [a5 7 (by decide) (by decide)]; exact d3
      · rw [a5 8 (by decide) (by decide)]; exact d4
      · rw [hob]; exact d5
      · rw [upd_self, gS_up hf, if_pos rfl, sum_up g4, sx_id (show gS (tu q) c' P = 0 from if_neg (by omega)), c6]
        exact nI_add _ 1
      · rw [upd_ne _ _ (by decide), gL_up hf (hob c') (fun p hp => by rw [a4, va_up_ne _ _ hp]), if_pos rfl, a4, va_up_self, Nat.sub_self, sum_up g4, sx_id (show gL (tu q) r c' P = 0 from if_neg (by omega)), Nat.add_zero]
        exact c7
      · rw [upd_ne _ _ (by decide), b3]; exact c8
      · rw [upd_ne _ _ (by decide)]
        rcases cE with cE | ⟨E, e1, e2, e3, e4⟩
        · exact Or.inl cE
        · have hEP : E ≠ P := fun z => by rw [z] at e3; omega
          refine Or.inr ⟨E, e1, e2, ?_, ?_⟩
          · rw [hf E, va_up_ne _ _ hEP]; exact e3
          · rw [a4, va_up_ne _ _ hEP, hob]; exact e4
    · rw [va_up_ne _ _ e]
      exact (h.c c' hc').oth hf g4 (by omega) (by omega) (fun i i1 i2 => by rw [a5 i i1 i2]) (fun p hp => by rw [a4, va_up_ne _ _ hp]) (by rw [b3])
  · rw [show (r_ns1 t P c (r_ob r c)).2.1 0 = r.2.1 0 from (hSA 0 (by decide) (by decide)).1]
    exact h.m
def r_e8 (r : r_T) (c : Nat) (x : Int32) : r_T := (r.1, r.2.1, va_up r.2.2 3 (upd (r.2.2 3) c x))
/-- which slab is kept empty -/
theorem RLQ.e8 (h : RLQ sc td q nc cf S mem r) {c : Nat} {x : Int32} (hc : c < nc) (hx : x = -1 ∨ ∃ E, E < 256 ∧ x = nI E ∧ tu q E = 2 + c ∧ r.2.1 4 E = r_ob r c) : RLQ sc td q nc (va_up cf c (upd (cf c) 8 x)) S mem (r_e8 r c x) := by
  refine ⟨h.n, h.bq, h.t, fun c' hc' => ?_, h.m⟩
  obtain ⟨a, b, c6, c7, c8, cE⟩ := h.c c' hc'
  by_cases e : c' = c
  · subst e
    rw [va_up_self]
    refine ⟨a, b, c6, c7, ?_, ?_⟩
    · rw [upd_self]
      show x = upd (r.2.2 3) c' x c'
      rw [upd_self]
    · rw [upd_self]
      exact hx
  · rw [va_up_ne _ _ e]
    refine ⟨a, b, c6, c7, ?_, cE⟩
    show _ = upd (r.2.2 3) c x c'
    rw [upd_ne _ _ e]
    exact c8
/-- an object is taken out of a slab -/
theorem RLQ.tko (h : RLQ sc td q nc cf S mem r) {P c j rr n ob : Nat} {f : Nat → Nat} {w : Int64} (hP : P < 256) (hc : c < nc) (hu : tu q P = 2 + c) (hS : S P = some (j, rr, n, ob, f, w)) (hn : 1 ≤ n) (h8 : ¬ cf c 8 = nI P) :
    n = r.2.1 4 P ∧ ob = r_ob r c ∧ f (n - 1) = r.2.1 3 (64 * P + (n - 1)) ∧ RLQ sc td q nc (va_up cf c (upd (cf c) 7 (cf c 7 + 1))) (va_up S P (some (j, rr, n - 1, ob, f, l_set w (f (n - 1))))) mem (r_to2 r P) := by
  obtain ⟨c', c1, c2, c3, j', rr', f', w', s1, s2, s3, s4, s5, s6⟩ := h.t.1 P hP (by omega)
  rw [show c' = c by omega] at s1 s2 s3 s5 s6
  have hcc : c' = c := by omega
  rw [hS] at s1
  injection s1 with s1
  injection s1 with i1 s1
  injection s1 with i2 s1
  injection s1 with i3 s1
  injection s1 with i4 s1
  injection s1 with i5 i6
  subst i5 i6
  have h12 := h.k.2.2
  have hkb := (h.c c hc).2.1.2.2.2.2.1
  refine ⟨i3, i4, ?_, h.n, h.bq, ⟨fun p hp h2 => ?_, ?_, h.t.2.2.1, ?_⟩, fun c' hc' => ?_, h.m⟩
  · exact (s3 (n - 1) (by omega)).1
  · obtain ⟨d, d1, d2, d3, d4⟩ := h.t.1 p hp h2
    refine ⟨d, d1, d2, d3, ?_⟩
    show R_sl _ _ (r_ob r d) p
    by_cases e : p = P
    · subst e
      rw [show d = c by omega]
      have hidx := s3 (n - 1) (by omega)
      have hlb : lb w (f (n - 1)) = false := by
        rcases Bool.eq_false_or_eq_true (lb w (f (n - 1))) with z | z
        · exact absurd rfl ((s5 _ hidx.2).mp z (n - 1) (by omega))
        · exact z
      unfold R_sl
      rw [show (r_to2 r p).2.1 4 p = n - 1 by rw [i3]; exact va_up_self _ _ _, show (r_to2 r p).2.1 3 = r.2.1 3 from rfl, va_up_self, i4]
      refine ⟨j, rr, f, _, rfl, by omega, fun i hi => s3 i (by omega), fun a b h1 h2 => s4 a b h1 (by omega), fun i hi => ?_, ?_⟩
      · unfold l_set
        rw [lb_set (by omega) (by omega), Bool.or_eq_true, decide_eq_true_iff, s5 i hi]
        constructor
        · rintro (z | z) k hk
          · exact z k (by omega)
          · rw [z]; exact s4 k (n - 1) (by omega) (by omega)
        · intro z
          by_cases e2 : f (n - 1) = i
          · exact Or.inr e2.symm
          · refine Or.inl (fun k hk => ?_)
            by_cases e3 : k = n - 1
            · rw [e3]; exact e2
            · exact z k (by omega)
      · have hg : r_sum (gB (l_set w (f (n - 1)))) (r_ob r c) = r_sum (va_up (gB w) (f (n - 1)) 1) (r_ob r c) := r_sum_cg _ (fun i hi => by
          unfold gB l_set
          rw [lb_set (by omega) (by omega)]
          by_cases e2 : i = f (n - 1)
          · rw [e2, va_up_self]
            simp
          · rw [va_up_ne _ _ e2]
            simp [e2])
        rw [hg, sum_up hidx.2, sx_id (show gB w (f (n - 1)) = 0 by unfold gB; rw [hlb]; rfl)]
        omega
    · exact d4.cg (va_up_ne _ _ e) (va_up_ne _ _ e) (fun i _ => rfl) (h.c d d1).2.1.2.2.2.2.1
  · intro p j' r' n' ob' f' w' hp
    by_cases e : p = P
    · subst e
      rw [va_up_self] at hp
      cases hp
      have := h.t.2.1 _ _ _ _ _ _ _ hS
      exact ⟨by omega, this.2.1, fun i hi => this.2.2 i (by omega)⟩
    · rw [va_up_ne _ _ e] at hp
      exact h.t.2.1 _ _ _ _ _ _ _ hp
  · intro p
    show va_up (r.2.1 4) P (r.2.1 4 P - 1) p ≤ 64
    have h9 := h.t.2.2.2 P
    unfold va_up
    split
    · omega
    · exact h.t.2.2.2 p
  · have ho4 : ∀ p, p ≠ P → (r_to2 r P).2.1 4 p = r.2.1 4 p := fun p hp => va_up_ne _ _ hp
    by_cases e : c' = c
    · subst e
      rw [va_up_self]
      obtain ⟨a, b, c6, c7, c8, cE⟩ := h.c c' hc'
      refine ⟨a, b, c6, ?_, c8, ?_⟩
      · rw [upd_self, gL_up (t := tu q) (t' := tu q) (r := r) (r' := r_to2 r P) (c := c') (tg_same P) rfl ho4, if_pos hu, sum_up hP, c7, r_sum_sx 256 hP, show gL (tu q) r c' P = r_ob r c' - r.2.1 4 P from if_pos hu, show (r_to2 r P).2.1 4 P = r.2.1 4 P - 1 from va_up_self _ _ _, show r_ob r c' - (r.2.1 4 P - 1) = r_ob r c' - r.2.1 4 P + 1 by omega, ← Nat.add_assoc]
        exact nI_add _ 1
      · rw [upd_ne _ _ (by decide)]
        rcases cE with cE | ⟨E, e1, e2, e3, e4⟩
        · exact Or.inl cE
        · have hEP : E ≠ P := fun z => h8 (by rw [e2, z])
          exact Or.inr ⟨E, e1, e2, e3, by rw [ho4 E hEP]; exact e4⟩
    · rw [va_up_ne _ _ e]
      exact (h.c c' hc').oth (tg_same P) hP (by rw [hu]; omega) (show tu q P ≠ 2 + c' by rw [hu]; omega) (fun i i1 i2 => by show va_up r.2.1 4 _ i c' = _; rw [va_up_ne _ _ (by omega)]) ho4 rfl
/-- an object comes back to its slab -/
theorem RLQ.gvo (h : RLQ sc td q nc cf S mem r) {P c j rr n ob i : Nat} {f : Nat → Nat} {w : Int64} (hP : P < 256) (hc : c < nc) (hu : tu q P = 2 + c) (hS : S P = some (j, rr, n, ob, f, w)) (hi : i < r_ob r c) (hl : lb w i = true) :
    n = r.2.1 4 P ∧ ob = r_ob r c ∧ n < r_ob r c ∧ RLQ sc td q nc (va_up cf c (upd (cf c) 7 (cf c 7 - 1))) (va_up S P (some (j, rr, n + 1, ob, va_up f n i, l_clr w i))) mem (r_go1 r P i) := by
  obtain ⟨c', c1, c2, c3, j', rr', f', w', s1, s2, s3, s4, s5, s6⟩ := h.t.1 P hP (by omega)
  rw [show c' = c by omega] at s1 s2 s3 s5 s6
  have hcc : c' = c := by omega
  rw [hS] at s1
  injection s1 with s1
  injection s1 with i1 s1
  injection s1 with i2 s1
  injection s1 with i3 s1
  injection s1 with i4 s1
  injection s1 with i5 i6
  subst i5 i6
  have h12 := h.k.2.2
  have hkb := (h.c c hc).2.1.2.2.2.2.1
  have hsum := r_sum_sx (g := gB w) (r_ob r c) hi
  rw [show gB w i = 1 from if_pos hl] at hsum
  have hnot := (s5 i hi).mp hl
  have hnb : n < r_ob r c := by omega
  refine ⟨i3, i4, hnb, h.n, h.bq, ⟨fun p hp h2 => ?_, ?_, ?_, ?_⟩, fun c' hc' => ?_, h.m⟩
  · obtain ⟨d, d1, d2, d3, d4⟩ := h.t.1 p hp h2
    refine ⟨d, d1, d2, d3, ?_⟩
    show R_sl _ _ (r_ob r d) p
    by_cases e : p = P
    · subst e
      rw [show d = c by omega]
      unfold R_sl
      rw [show (r_go1 r p i).2.1 4 p = n + 1 by rw [i3]; exact va_up_self _ _ _, show (r_go1 r p i).2.1 3 = va_up (r.2.1 3) (64 * p + n) i by rw [i3]; rfl, va_up_self, i4]
      refine ⟨j, rr, va_up f n i, _, rfl, by omega, fun k hk => ?_, fun a b h1 h2 => ?_, fun k hk => ?_, ?_⟩
      · by_cases e2 : k = n
        · rw [e2, va_up_self, va_up_self]; exact ⟨rfl, hi⟩
        · rw [va_up_ne _ _ e2, va_up_ne _ _ (by omega)]; exact s3 k (by omega)
      · rw [va_up_ne _ _ (show a ≠ n by omega)]
        by_cases e2 : b = n
        · rw [e2, va_up_self]; exact hnot a (by omega)
        · rw [va_up_ne _ _ e2]; exact s4 a b h1 (by omega)
      · unfold l_clr
        rw [lb_clr (by omega) (by omega), Bool.and_eq_true, s5 k hk]
        constructor
        · rintro ⟨z1, z2⟩ k2 hk2
          by_cases e3 : k2 = n
          · rw [e3, va_up_self]
            intro z3
            rw [z3] at z2
            simp at z2
          · rw [va_up_ne _ _ e3]; exact z1 k2 (by omega)
        · intro z
          refine ⟨fun k2 hk2 => ?_, ?_⟩
          · have := z k2 (by omega)
            rw [va_up_ne _ _ (show k2 ≠ n by omega)] at this
            exact this
          · have := z n (by omega)
            rw [va_up_self] at this
            simp [Ne.symm this]
      · have hg : r_sum (gB (l_clr w i)) (r_ob r c) = r_sum (va_up (gB w) i 0) (r_ob r c) := r_sum_cg _ (fun k hk => by
          unfold gB l_clr
          rw [lb_clr (by omega) (by omega)]
          by_cases e2 : k = i
          · rw [e2, va_up_self]
            simp
          · rw [va_up_ne _ _ e2]
            simp [e2])
        rw [hg, sum_up hi]
        omega
    · refine d4.cg (va_up_ne _ _ e) (va_up_ne _ _ e) (fun k hk => ?_) (h.c d d1).2.1.2.2.2.2.1
      exact va_up_ne _ _ (by omega)
  · intro p j' r' n' ob' f' w' hp
    by_cases e : p = P
    · subst e
      rw [va_up_self] at hp
      cases hp
      have := h.t.2.1 _ _ _ _ _ _ _ hS
      refine ⟨by omega, this.2.1, fun k hk => ?_⟩
      unfold va_up
      split
      · omega
      · exact this.2.2 k (by omega)
    · rw [va_up_ne _ _ e] at hp
      exact h.t.2.1 _ _ _ _ _ _ _ hp
  · intro k
    show va_up (r.2.1 3) _ i k < 65536
    unfold va_up
    split
    · omega
    · exact h.t.2.2.1 k
  · intro p
    show va_up (r.2.1 4) P (r.2.1 4 P + 1) p ≤ 64
    unfold va_up
    split
    · omega
    · exact h.t.2.2.2 p
  · have ho4 : ∀ p, p ≠ P → (r_go1 r P i).2.1 4 p = r.2.1 4 p := fun p hp => va_up_ne _ _ hp
    by_cases e : c' = c
    · subst e
      rw [va_up_self]
      obtain ⟨a, b, c6, c7, c8, cE⟩ := h.c c' hc'
      refine ⟨a, b, c6, ?_, c8, ?_⟩
      · rw [upd_self, gL_up (t := tu q) (t' := tu q) (r := r) (r' := r_go1 r P i) (c := c') (tg_same P) rfl ho4, if_pos hu, sum_up hP, c7, r_sum_sx 256 hP, show gL (tu q) r c' P = r_ob r c' - r.2.1 4 P from if_pos hu, show (r_go1 r P i).2.1 4 P = r.2.1 4 P + 1 from va_up_self _ _ _, show (1 : Int32) = nI 1 from rfl, pk_sub (by omega)]
        congr 1
        omega
      · rw [upd_ne _ _ (by decide)]
        rcases cE with cE | ⟨E, e1, e2, e3, e4⟩
        · exact Or.inl cE
        · have hEP : E ≠ P := fun z => by rw [z] at e4; omega
          exact Or.inr ⟨E, e1, e2, e3, by rw [ho4 E hEP]; exact e4⟩
    · rw [va_up_ne _ _ e]
      exact (h.c c' hc').oth (tg_same P) hP (by rw [hu]; omega) (show tu q P ≠ 2 + c' by rw [hu]; omega) (fun i i1 i2 => by show va_up (va_up r.2.1 3 _) 4 _ i c' = _; rw [va_up_ne _ _ (by omega), va_up_ne _ _ (by omega)]) ho4 rfl
end
