/-! the lowest page of a kind -/
theorem low_spec {g : Nat → Bool} : ∀ (n : Nat) (b : Option Nat), (∃ p, r_low g n b = some p ∧ p < n ∧ g p = true ∧ ∀ p', p' < p → g p' = false) ∨ (r_low g n b = b ∧ ∀ p, p < n → g p = false) := by
  intro n
  induction n with
  | zero => intro b; exact Or.inr ⟨rfl, fun p hp => by omega⟩
  | succ n ih =>
    intro b
    show (∃ p, r_low g n (if g n then some n else b) = some p ∧ _) ∨ _
    rcases ih (if g n then some n else b) with ⟨p, h1, h2, h3, h4⟩ | ⟨h1, h2⟩
    · exact Or.inl ⟨p, h1, by omega, h3, h4⟩
    · by_cases hg : g n = true
      · rw [if_pos hg] at h1
        rw [if_pos hg]
        exact Or.inl ⟨n, h1, by omega, hg, h2⟩
      · rw [if_neg hg] at h1
        refine Or.inr ⟨?_, fun p hp => ?_⟩
        · show r_low g n (if g n then some n else b) = b
          rw [if_neg hg]
          exact h1
        · rcases Nat.lt_or_ge p n with z | z
          · exact h2 p z
          · rw [show p = n by omega]
            exact Bool.eq_false_iff.mpr hg
theorem find_spec {g : Nat → Bool} : ∀ (n s : Nat), (∃ p, q_find g n s = some p ∧ s ≤ p ∧ p < s + n ∧ g p = true ∧ ∀ p', s ≤ p' → p' < p → g p' = false) ∨ (q_find g n s = none ∧ ∀ p, s ≤ p → p < s + n → g p = false) := by
  intro n
  induction n with
  | zero => intro s; exact Or.inr ⟨rfl, fun p h1 h2 => by omega⟩
  | succ n ih =>
    intro s
    by_cases hg : g s = true
    · refine Or.inl ⟨s, if_pos hg, Nat.le_refl _, by omega, hg, fun p' h1 h2 => by omega⟩
    · have e : q_find g (n + 1) s = q_find g n (s + 1) := if_neg hg
      rw [e]
      have hgf : g s = false := Bool.eq_false_iff.mpr hg
      rcases ih (s + 1) with ⟨p, h1, h2, h3, h4, h5⟩ | ⟨h1, h2⟩
      · refine Or.inl ⟨p, h1, by omega, by omega, h4, fun p' h6 h7 => ?_⟩
        rcases Nat.lt_or_ge s p' with z | z
        · exact h5 p' z h7
        · rw [show p' = s by omega]; exact hgf
      · refine Or.inr ⟨h1, fun p h6 h7 => ?_⟩
        rcases Nat.lt_or_ge s p with z | z
        · exact h2 p z (by omega)
        · rw [show p = s by omega]; exact hgf
theorem low_find {g g' : Nat → Bool} (h : ∀ p, p < 256 → g p = g' p) : r_low g 256 none = q_find g' 256 0 := by
  rcases low_spec (g := g) 256 none with ⟨p, h1, h2, h3, h4⟩ | ⟨h1, h2⟩
  · rcases find_spec (g := g') 256 0 with ⟨p', g1, g2, g3, g4, g5⟩ | ⟨g1, g2⟩
    · rw [h1, g1]
      congr 1
      rcases Nat.lt_trichotomy p p' with z | z | z
      · have := g5 p (by omega) z
        rw [← h p h2, h3] at this
        cases this
      · exact z
      · have := h4 p' z
        rw [h p' (by omega), g4] at this
        cases this
    · have := g2 p (by omega) (by omega)
      rw [← h p h2, h3] at this
      cases this
  · rcases find_spec (g := g') 256 0 with ⟨p', g1, g2, g3, g4, g5⟩ | ⟨g1, g2⟩
    · have := h2 p' (by omega)
      rw [h p' (by omega), g4] at this
      cases this
    · rw [h1, g1]
theorem lp_find (od us : Nat → Nat) (o : Nat) : ∀ (n p : Nat), q_lp od us o n p = q_find (fun p => decide (od p = o + 1 ∧ us p = 0)) n p := by
  intro n
  induction n with
  | zero => intro p; rfl
  | succ n ih =>
    intro p
    unfold q_lp q_find
    rw [ih]
    by_cases e : od p = o + 1 ∧ us p = 0
    · rw [if_pos e, if_pos (decide_eq_true e)]
    · rw [if_neg e, if_neg (by rw [decide_eq_false e]; decide)]
theorem PB.low {q : q_T} {r : r_T} (h : PB q.1 q.2.1 (r.2.2 0) (r.2.1 1) (r.2.1 2) (r.2.2 1) (r.2.2 2)) (hs : ¬ r.1 0 = 0) (o : Nat) : r_low (fun p => decide (r_free r p = true ∧ r.2.1 2 p = o)) 256 none = q_lp q.1 q.2.1 o 256 0 := by
  rw [lp_find]
  refine low_find (fun p hp => ?_)
  apply decide_eq_decide.mpr
  rw [h.fr hs hp]
  constructor
  · rintro ⟨⟨h1, h2⟩, h3⟩
    have := (h.1 p hp h1).2.2.2.1
    exact ⟨by omega, h2⟩
  · rintro ⟨h1, h2⟩
    have := (h.1 p hp (by omega)).2.2.2.1
    exact ⟨⟨by omega, h2⟩, by omega⟩
theorem cF_le (od us : Nat → Nat) (k p : Nat) : cF od us k p ≤ 1 := by
  unfold cF
  split <;> omega
theorem PB.best {q : q_T} {r : r_T} {T : Nat} (h : PB q.1 q.2.1 (r.2.2 0) (r.2.1 1) (r.2.1 2) (r.2.2 1) (r.2.2 2)) (hs : ¬ r.1 0 = 0) (hx : QC q T) : ∀ n k, n + k = 6 → r_best r (n + 1) k = q_lp q.1 q.2.1 (q_lo q.2.2 n k) 256 0 := by
  intro n
  induction n with
  | zero =>
    intro k hk
    show r_or (r_low _ 256 none) none = _
    rw [h.low hs]
    show r_or (q_lp q.1 q.2.1 k 256 0) none = q_lp q.1 q.2.1 k 256 0
    cases q_lp q.1 q.2.1 k 256 0 <;> rfl
  | succ n ih =>
    intro k hk
    show r_or (r_low _ 256 none) (r_best r (n + 1) (k + 1)) = _
    rw [h.low hs, ih (k + 1) (by omega)]
    have h1 := hx.1 k (by omega)
    have h2 := r_sum_le (g := cF q.1 q.2.1 k) (M := 1) 256 (fun p _ => cF_le _ _ _ _)
    rw [show q_lo q.2.2 (n + 1) k = if q.2.2 k = 0 then q_lo q.2.2 n (k + 1) else k from rfl]
    rcases find_spec (g := fun p => decide (q.1 p = k + 1 ∧ q.2.1 p = 0)) 256 0 with ⟨p, g1, g2, g3, g4, g5⟩ | ⟨g1, g2⟩
    · have g6 := of_decide_eq_true g4
      have g7 : cF q.1 q.2.1 k p = 1 := if_pos g6
      have g8 := r_sum_sx (g := cF q.1 q.2.1 k) (P := p) 256 (by omega)
      rw [if_neg (fun z => by
        rw [z] at h1
        have := (nI_eq (a := 0) (by decide) (by omega)).mp h1
        omega)]
      rw [lp_find, g1]
      rfl
    · have g3 : r_sum (cF q.1 q.2.1 k) 256 = 0 := r_sum_0 256 (fun p hp => if_neg (of_decide_eq_false (g2 p (by omega) (by omega))))
      rw [h1, g3, if_pos (show nI 0 = (0 : Int32) from rfl), show q_lp q.1 q.2.1 k 256 0 = none by rw [lp_find]; exact g1]
      rfl
theorem PB.tk {q : q_T} {r : r_T} {sc : Nat → Int32} {T k : Nat} (h : PB q.1 q.2.1 (r.2.2 0) (r.2.1 1) (r.2.1 2) (r.2.2 1) (r.2.2 2)) (hs : ¬ r.1 0 = 0) (hx : QC q T) (ha : sc 7 = r.1 2) (hk : k ≤ 6) : j_take sc q k = r_tk r k := by
  unfold j_take r_tk q_take
  rw [ha]
  by_cases e : r.1 2 = 0
  · rw [if_pos e, if_pos e]
  · rw [if_neg e, if_neg e, show 7 - k = (6 - k) + 1 by omega, h.best hs hx (6 - k) k (by omega)]
/-! numbers that bound the reference's arrays -/
theorem r_split_b {P k : Nat} (hP : P + 2 ^ (k + 0) ≤ 256 ∨ True) : ∀ (n : Nat) (r : r_T), k + n ≤ 6 → P + 2 ^ (k + n) ≤ 256 → (∀ p, r.2.1 1 p < 256) → (∀ p, r.2.1 2 p ≤ 6) → (∀ p, (r_split P k n r).2.1 1 p < 256) ∧ (∀ p, (r_split P k n r).2.1 2 p ≤ 6) := by
  intro n
  induction n with
  | zero => intro r _ _ h1 h2; exact ⟨h1, h2⟩
  | succ n ih =>
    intro r hk hP h1 h2
    have hp : 2 ^ (k + (n + 1)) = 2 ^ (k + n) * 2 := by rw [show k + (n + 1) = k + n + 1 by omega, Nat.pow_succ]
    have hpp := Nat.two_pow_pos (k + n)
    exact ih _ (by omega) (by omega) (r_mk_fo h1 (by omega)) (r_mk_oo h2 (by omega))
theorem r_join_b : ∀ (n : Nat) (r : r_T) (f k : Nat), n + k ≤ 6 → f < 256 → (∀ p, r.2.1 1 p < 256) → (∀ p, r.2.1 2 p ≤ 6) → (∀ p, (r_join n r f k).2.1 1 p < 256) ∧ (∀ p, (r_join n r f k).2.1 2 p ≤ 6) := by
  intro n
  induction n with
  | zero => intro r f k _ _ h1 h2; exact ⟨h1, h2⟩
  | succ n ih =>
    intro r f k hk hf h1 h2
    unfold r_join
    split
    · exact ih _ _ _ (by omega) (by omega) (r_mk_fo h1 (by omega)) (r_mk_oo h2 (by omega))
    · exact ⟨h1, h2⟩
theorem q_hv_b {P k : Nat} : ∀ (n : Nat) (q : q_T), k + n ≤ 7 → (∀ p, q.1 p ≤ 7) → (∀ p, q.2.1 p ≤ 13) → (∀ p, (q_hv P k n q).1 p ≤ 7) ∧ (∀ p, (q_hv P k n q).2.1 p ≤ 13) := by
  intro n
  induction n with
  | zero => intro q _ h1 h2; exact ⟨h1, h2⟩
  | succ n ih =>
    intro q hk h1 h2
    refine ih _ (by omega) (fun p => ?_) (fun p => ?_)
    · show va_up q.1 _ (k + n + 1) p ≤ 7
      unfold va_up
      split
      · omega
      · exact h1 p
    · show va_up q.2.1 _ 0 p ≤ 13
      unfold va_up
      split
      · omega
      · exact h2 p
theorem q_got_b {q : q_T} {P k u : Nat} (hk : k + 1 ≤ q.1 P) (hu : u ≤ 13) (h1 : ∀ p, q.1 p ≤ 7) (h2 : ∀ p, q.2.1 p ≤ 13) : (∀ p, (q_got q P k u).1 p ≤ 7) ∧ (∀ p, (q_got q P k u).2.1 p ≤ 13) := by
  have h7 := h1 P
  have g := q_hv_b (P := P) (k := k) (q.1 P - 1 - k) (q.1, q.2.1, upd q.2.2 (q.1 P - 1) (q.2.2 (q.1 P - 1) - 1)) (by omega) h1 h2
  refine ⟨fun p => ?_, fun p => ?_⟩
  · show va_up _ P (k + 1) p ≤ 7
    unfold va_up
    split
    · omega
    · exact g.1 p
  · show va_up _ P u p ≤ 13
    unfold va_up
    split
    · exact hu
    · exact g.2 p
theorem q_rel_b {q : q_T} {P : Nat} (ho : q.1 P ≠ 0) (h1 : ∀ p, q.1 p ≤ 7) (h2 : ∀ p, q.2.1 p ≤ 13) : (∀ p, (q_rel q P).1 p ≤ 7) ∧ (∀ p, (q_rel q P).2.1 p ≤ 13) := by
  have h7 := h1 P
  exact q_join_ok _ q P _ (by omega) h1 h2
theorem r_got_b {r : r_T} {P k : Nat} (hP : P + 2 ^ r.2.1 2 P ≤ 256) (hk : k ≤ r.2.1 2 P) (h1 : ∀ p, r.2.1 1 p < 256) (h2 : ∀ p, r.2.1 2 p ≤ 6) : (∀ p, (r_got r P k).2.1 1 p < 256) ∧ (∀ p, (r_got r P k).2.1 2 p ≤ 6) := by
  have h7 := h2 P
  have hpp := Nat.two_pow_pos (r.2.1 2 P)
  have e : k + (r.2.1 2 P - k) = r.2.1 2 P := by omega
  have g := r_split_b (P := P) (k := k) (Or.inr trivial) (r.2.1 2 P - k) r (by omega) (by rw [e]; exact hP) h1 h2
  exact ⟨r_mk_fo g.1 (by omega), r_mk_oo g.2 (by omega)⟩
theorem r_gvs_b {r : r_T} {P : Nat} (hP : P < 256) (h1 : ∀ p, r.2.1 1 p < 256) (h2 : ∀ p, r.2.1 2 p ≤ 6) : (∀ p, (r_gvs r P).2.1 1 p < 256) ∧ (∀ p, (r_gvs r P).2.1 2 p ≤ 6) := by
  have h7 := h2 P
  exact r_join_b _ _ _ _ (by omega) hP (r_mk_fo h1 hP) (r_mk_oo h2 h7)
