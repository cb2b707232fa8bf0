theorem R_sl.cg {S S' : Nat → Option s_T} {r r' : r_T} {ob p : Nat} (hS : S' p = S p) (h4 : r'.2.1 4 p = r.2.1 4 p) (h3 : ∀ i, i < 64 → r'.2.1 3 (64 * p + i) = r.2.1 3 (64 * p + i)) (hob : ob ≤ 64) (h : R_sl S r ob p) : R_sl S' r' ob p := by
  obtain ⟨j, rr, f, w, g1, g2, g3, g4, g5, g6⟩ := h
  unfold R_sl
  rw [h4]
  refine ⟨j, rr, f, w, by rw [hS]; exact g1, g2, fun i hi => ?_, g4, g5, g6⟩
  rw [h3 i (by omega)]
  exact g3 i hi
theorem ob_cg {r r' : r_T} (h : SA r r') (c : Nat) : r_ob r' c = r_ob r c := by
  unfold r_ob
  rw [(h 7 (by decide) (by decide)).1, (h 8 (by decide) (by decide)).1]
theorem R_k.cg {r r' : r_T} {c : Nat} (h7 : r'.2.1 7 c = r.2.1 7 c) (h8 : r'.2.1 8 c = r.2.1 8 c) (h : R_k r c) : R_k r' c := by
  unfold R_k r_ob at *
  rw [h7, h8]
  exact h
theorem gS_up {t t' : Nat → Nat} {P v c : Nat} (h : ∀ p, t' p = va_up t P v p) : gS t' c = va_up (gS t c) P (if v = 2 + c then 1 else 0) := by
  funext p
  unfold gS
  rw [h p]
  by_cases e : p = P
  · rw [e, va_up_self, va_up_self]
  · rw [va_up_ne _ _ e, va_up_ne _ _ e]
theorem gL_up {t t' : Nat → Nat} {r r' : r_T} {P v c : Nat} (h : ∀ p, t' p = va_up t P v p) (hob : r_ob r' c = r_ob r c) (h4 : ∀ p, p ≠ P → r'.2.1 4 p = r.2.1 4 p) : gL t' r' c = va_up (gL t r c) P (if v = 2 + c then r_ob r c - r'.2.1 4 P else 0) := by
  funext p
  unfold gL
  rw [h p, hob]
  by_cases e : p = P
  · rw [e, va_up_self, va_up_self]
  · rw [va_up_ne _ _ e, va_up_ne _ _ e, h4 p e]
/-- a cache that the change doesn't touch -/
theorem R_c1.oth {q q' : q_T} {g : Nat → Int32} {r r' : r_T} {c P v : Nat} (h : R_c1 q g r c) (hf : ∀ p, tu q' p = va_up (tu q) P v p) (hP : P < 256) (ha : tu q P ≠ 2 + c) (hv : v ≠ 2 + c) (hk : ∀ i, 5 ≤ i → i ≤ 8 → r'.2.1 i c = r.2.1 i c) (h4 : ∀ p, p ≠ P → r'.2.1 4 p = r.2.1 4 p) (h3 : r'.2.2 3 c = r.2.2 3 c) : R_c1 q' g r' c := by
  obtain ⟨⟨a0, a1, a2, a3, a4, a5⟩, b, c6, c7, c8, cE⟩ := h
  have hob : r_ob r' c = r_ob r c := by
    unfold r_ob
    rw [hk 7 (by decide) (by decide), hk 8 (by decide) (by decide)]
  refine ⟨⟨a0, ?_, ?_, ?_, ?_, ?_⟩, b.cg (hk 7 (by decide) (by decide)) (hk 8 (by decide) (by decide)), ?_, ?_, ?_, ?_⟩
  · rw [hk 5 (by decide) (by decide)]; exact a1
  · rw [hk 6 (by decide) (by decide)]; exact a2
  · rw [hk 7 (by decide) (by decide)]; exact a3
  · rw [hk 8 (by decide) (by decide)]; exact a4
  · rw [hob]; exact a5
  · rw [gS_up hf, if_neg hv, sum_up hP, sx_id (show gS (tu q) c P = 0 from if_neg ha), Nat.add_zero]
    exact c6
  · rw [gL_up hf hob h4, if_neg hv, sum_up hP, sx_id (show gL (tu q) r c P = 0 from if_neg ha), Nat.add_zero]
    exact c7
  · rw [h3]; exact c8
  · rcases cE with cE | ⟨E, e1, e2, e3, e4⟩
    · exact Or.inl cE
    · have hEP : E ≠ P := fun z => ha (by rw [← z]; exact e3)
      refine Or.inr ⟨E, e1, e2, ?_, ?_⟩
      · rw [hf E, va_up_ne _ _ hEP]; exact e3
      · rw [h4 E hEP, hob]; exact e4
section
variable {sc td : Nat → Int32} {q : q_T} {nc : Nat} {cf : Nat → Nat → Int32} {S : Nat → Option s_T} {mem : Nat → Nat} {r : r_T}
/-- the blocks change at P, and P is no slab before and behind it -/
theorem RLQ.blk (h : RLQ sc td q nc cf S mem r) {sc' : Nat → Int32} {q' : q_T} {r' : r_T} {P v o : Nat} (hn : R_n sc' td nc r') (hq : R_q sc' q' r') (hSA : SA r r') (hf : ∀ p, tu q' p = va_up (tu q) P v p) (hf2 : ∀ p, to q' p = va_up (to q) P o p) (hP : P < 256) (ha : tu q P < 2) (hv : v < 2) : RLQ sc' td q' nc cf S mem r' := by
  have h12 := h.k.2.2
  refine ⟨hn, hq, ⟨fun p hp h2 => ?_, h.t.2.1, ?_, ?_⟩, fun c hc => ?_, ?_⟩
  · have hpP : p ≠ P := fun z => by rw [z, hf P, va_up_self] at h2; omega
    rw [hf p, va_up_ne _ _ hpP] at h2 ⊢
    rw [hf2 p, va_up_ne _ _ hpP, (hSA 8 (by decide) (by decide)).1]
    obtain ⟨c, c1, c2, c3, c4⟩ := h.t.1 p hp h2
    refine ⟨c, c1, c2, c3, ?_⟩
    rw [ob_cg hSA]
    exact c4.cg rfl (by rw [(hSA 4 (by decide) (by decide)).1]) (fun i _ => by rw [(hSA 3 (by decide) (by decide)).1]) (h.c c c1).2.1.2.2.2.2.1
  · rw [(hSA 3 (by decide) (by decide)).1]; exact h.t.2.2.1
  · rw [(hSA 4 (by decide) (by decide)).1]; exact h.t.2.2.2
  · exact (h.c c hc).oth hf hP (by omega) (by omega) (fun i i1 i2 => by rw [(hSA i (by omega) (by omega)).1]) (fun p _ => by rw [(hSA 4 (by decide) (by decide)).1]) (by rw [(hSA 3 (by decide) (by decide)).2])
  · rw [(hSA 0 (by decide) (by decide)).1]; exact h.m
theorem tks_SA (r : r_T) (k : Nat) : SA r (r_tks r k) := fun _ h1 h2 => r_tks_na h1 h2
theorem gvs_SA (r : r_T) (P : Nat) : SA r (r_gvs r P) := fun _ h1 h2 => r_gvs_na h1 h2
/-- pages: a block is taken for its pages -/
theorem RLQ.pg (h : RLQ sc td q nc cf S mem r) (hs : ¬ sc 0 = 0) {k : Nat} (hk : k ≤ 6) : j_take sc q k = r_tk r k ∧ RLQ (j_scl sc q k) td (j_qcl sc q k 1) nc cf S mem (r_tks r k) := by
  obtain ⟨T, hQ, -⟩ := h.qc
  have htk : j_take sc q k = r_tk r k := (h.pb hs).tk (by rw [← h.st]; exact hs) hQ h.n.2.2.2.2.2.2.2.1.1 hk
  refine ⟨htk, ?_⟩
  unfold j_scl j_qcl
  rcases opt_cases (j_take sc q k) with ht | ⟨P, ht⟩
  · rw [ht]
    have e : r_tks r k = (upd (upd r.1 2 (r_arm (r.1 2))) 3 (r.1 3 + 1), r.2) := by
      unfold r_tks
      rw [← htk, ht]
    rw [e]
    exact h.miss
  · rw [ht]
    have hco : (r_tks r k).2.2 2 = upd ((r_tks r k).2.2 2) P (if 1 ≤ 1 then -1 else nI (1 - 2)) := by
      have e : r_tk r k = some P := by rw [← htk]; exact ht
      unfold r_tks
      rw [e]
      show upd _ P (-1) = upd (upd _ P (-1)) P _
      rw [upd_upd]
      rfl
    obtain ⟨g1, g2, g3, g4, g5, -⟩ := h.got hs hk ht (Nat.le_refl 1) (by omega) (r' := r_tks r k) rfl rfl rfl ((tks_SA r k 0 (by decide) (by decide)).2) rfl hco
    exact h.blk g1 g2 (tks_SA r k) (g3 _) (g3 _) g4 (by omega) (by omega)
/-- pages come back -/
theorem RLQ.fp (h : RLQ sc td q nc cf S mem r) {P : Nat} (hP : P < 256) (hu : tu q P = 1) : RLQ (s_rel sc (q.1 P - 1)) td (q_rel q P) nc cf S mem (r_gvs r P) := by
  obtain ⟨g1, g2, g3⟩ := h.rel hP (by omega)
  exact h.blk g1 g2 (gvs_SA r P) (g3 _) (g3 _) hP (by omega) (by omega)
/-- an empty slab is dropped -/
theorem RLQ.drop (h : RLQ sc td q nc cf S mem r) {P c : Nat} (hP : P < 256) (hc : c < nc) (hu : tu q P = 2 + c) (h4 : r.2.1 4 P = r_ob r c) (h8 : cf c 8 ≠ nI P) : RLQ (s_rel sc (q.1 P - 1)) td (q_rel q P) nc (va_up cf c (upd (cf c) 6 (cf c 6 - 1))) S mem (r_gvs r P) := by
  obtain ⟨g1, g2, g3⟩ := h.rel hP (by omega)
  have hSA := gvs_SA r P
  have h12 := h.k.2.2
  have hf : ∀ p, tu (q_rel q P) p = va_up (tu q) P 0 p := g3 _
  have hf2 : ∀ p, to (q_rel q P) p = va_up (to q) P 0 p := g3 _
  refine ⟨g1, g2, ⟨fun p hp h2 => ?_, h.t.2.1, ?_, ?_⟩, fun c' hc' => ?_, ?_⟩
  · have hpP : p ≠ P := fun z => by rw [z, hf P, va_up_self] at h2; omega
    rw [hf p, va_up_ne _ _ hpP] at h2 ⊢
    rw [hf2 p, va_up_ne _ _ hpP, (hSA 8 (by decide) (by decide)).1]
    obtain ⟨c, c1, c2, c3, c4⟩ := h.t.1 p hp h2
    refine ⟨c, c1, c2, c3, ?_⟩
    rw [ob_cg hSA]
    exact c4.cg rfl (by rw [(hSA 4 (by decide) (by decide)).1]) (fun i _ => by rw [(hSA 3 (by decide) (by decide)).1]) (h.c c c1).2.1.2.2.2.2.1
  · rw [(hSA 3 (by decide) (by decide)).1]; exact h.t.2.2.1
  · rw [(hSA 4 (by decide) (by decide)).1]; exact h.t.2.2.2
  · by_cases e : c' = c
    · subst e
      rw [va_up_self]
      obtain ⟨⟨a0, a1, a2, a3, a4, a5⟩, b, c6, c7, c8, cE⟩ := h.c c' hc'
      have hob := ob_cg hSA c'
      refine ⟨⟨a0, ?_, ?_, ?_, ?_, ?_⟩, b.cg (by rw [(hSA 7 (by decide) (by decide)).1]) (by rw [(hSA 8 (by decide) (by decide)).1]), ?_, ?_, ?_, ?_⟩
      · rw [(hSA 5 (by decide) (by decide)).1]; exact a1
      · rw [(hSA 6 (by decide) (by decide)).1]; exact a2
      · rw [(hSA 7 (by decide) (by decide)).1]; exact a3
      · rw [(hSA 8 (by decide) (by decide)).1]; exact a4
      · rw [hob]; exact a5
      · rw [upd_self, gS_up hf, if_neg (by omega), sum_up hP, c6, r_sum_sx 256 hP, show gS (tu q) c' P = 1 from if_pos hu, show (1 : Int32) = nI 1 from rfl, pk_sub (by omega), Nat.add_sub_cancel, Nat.add_zero]
      · rw [upd_ne _ _ (by decide), gL_up hf hob (fun p _ => by rw [(hSA 4 (by decide) (by decide)).1]), if_neg (by omega), sum_up hP, c7, r_sum_sx 256 hP, show gL (tu q) r c' P = 0 from (if_pos hu).trans (by omega)]
      · rw [upd_ne _ _ (by decide), (hSA 3 (by decide) (by decide)).2]; exact c8
      · rw [upd_ne _ _ (by decide)]
        rcases cE with cE | ⟨E, e1, e2, e3, e4⟩
        · exact Or.inl cE
        · have hEP : E ≠ P := fun z => h8 (by rw [e2, z])
          refine Or.inr ⟨E, e1, e2, ?_, ?_⟩
          · rw [hf E, va_up_ne _ _ hEP]; exact e3
          · rw [(hSA 4 (by decide) (by decide)).1, hob]; exact e4
    · rw [va_up_ne _ _ e]
      exact (h.c c' hc').oth hf hP (by omega) (by omega) (fun i i1 i2 => by rw [(hSA i (by omega) (by omega)).1]) (fun p _ => by rw [(hSA 4 (by decide) (by decide)).1]) (by rw [(hSA 3 (by decide) (by decide)).2])
  · rw [(hSA 0 (by decide) (by decide)).1]; exact h.m
end
