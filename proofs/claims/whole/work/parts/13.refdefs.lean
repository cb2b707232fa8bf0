/-! the reference's state: numbers, arrays of numbers, arrays of ints -/
abbrev r_T : Type := (Nat → Int32) × (Nat → Nat → Nat) × (Nat → Nat → Int32)
def q_aZ (G : z_G) (n : Nat) (f : Nat → Int32) : va_E := .inl (G.2 2, n, .inl f)
def q_aJ (G : z_G) (n : Nat) (f : Nat → Int32) : va_E := .inl (G.2 0, n, .inl f)
def r_obj (base : Nat) (a : Nat → Int32) : va_E := .inr (5, [.ref (base + 17), .int (a 0), .ref (base + 18), .ref (base + 19), .ref (base + 20), .ref (base + 21), .ref (base + 22), .ref (base + 23), .ref (base + 24), .int (a 1), .ref (base + 25), .ref (base + 26), .ref (base + 27), .ref (base + 28), .ref (base + 29), .int (a 2), .int (a 3), .int (a 4), .int (a 5), .int (a 6)])
def r_cells (G : z_G) (base : Nat) (r : r_T) : List va_E := [r_obj base r.1, q_aI G 16384 (r.2.1 0), q_aZ G 256 (r.2.2 0), q_aI G 256 (r.2.1 1), q_aI G 256 (r.2.1 2), q_aZ G 256 (r.2.2 1), q_aJ G 256 (r.2.2 2), q_aI G 16384 (r.2.1 3), q_aI G 256 (r.2.1 4), q_aI G 12 (r.2.1 5), q_aI G 12 (r.2.1 6), q_aI G 12 (r.2.1 7), q_aI G 12 (r.2.1 8), q_aJ G 12 (r.2.2 3)]
def hpM (G : z_G) (base : Nat) (xs : Nat → va_E) (r : r_T) (tl : List va_E) : List va_E :=
  xs 0 :: xs 1 :: xs 2 :: xs 3 :: xs 4 :: xs 5 :: xs 6 :: xs 7 :: xs 8 :: xs 9 :: xs 10 :: xs 11 :: xs 12 :: xs 13 :: xs 14 :: xs 15 :: (r_cells G base r ++ tl)
def r_sum (g : Nat → Nat) : Nat → Nat
  | 0 => 0
  | n + 1 => r_sum g n + g n
def r_first (r : r_T) (p : Nat) : Bool := decide (¬ r.1 0 = 0 ∧ ¬ r.2.2 0 p = 0 ∧ r.2.1 1 p = p)
def r_free (r : r_T) (p : Nat) : Bool := decide (r_first r p = true ∧ r.2.2 1 p = 0)
def r_slab (r : r_T) (p : Nat) (c : Nat) : Bool := decide (r_first r p = true ∧ ¬ r.2.2 1 p = 0 ∧ r.2.2 2 p = nI c)
def r_ob (r : r_T) (c : Nat) : Nat := 64 * 2 ^ r.2.1 8 c / r.2.1 7 c
def r_low (g : Nat → Bool) : Nat → Option Nat → Option Nat
  | 0, b => b
  | n + 1, b => r_low g n (if g n then some n else b)
/-- a run of pages gets one first page -/
def r_run (f : Nat → Nat) (P : Nat) : Nat → Nat → Nat → Nat
  | 0, _ => f
  | n + 1, z => r_run (va_up f z P) P n (z + 1)
def r_mk (r : r_T) (P k : Nat) (b : Int32) : r_T := (r.1, va_up (va_up r.2.1 1 (r_run (r.2.1 1) P (2 ^ k) P)) 2 (va_up (r.2.1 2) P k), va_up (va_up r.2.2 1 (upd (r.2.2 1) P b)) 2 (upd (r.2.2 2) P (-1)))
theorem r_run_at (P : Nat) : ∀ (n z : Nat) (f : Nat → Nat) (p : Nat), r_run f P n z p = if z ≤ p ∧ p < z + n then P else f p := by
  intro n
  induction n with
  | zero => intro z f p; unfold r_run; rw [if_neg (by omega)]
  | succ n ih =>
    intro z f p
    unfold r_run
    rw [ih]
    by_cases h : z + 1 ≤ p ∧ p < z + 1 + n
    · rw [if_pos h, if_pos (by omega)]
    · rw [if_neg h]
      unfold va_up
      by_cases hz : p = z
      · rw [if_pos hz, if_pos (by omega)]
      · rw [if_neg hz, if_neg (by omega)]
theorem bI_b (b : Bool) : bI b = 0 ↔ b = false := by cases b <;> decide
theorem bI_nt {b : Bool} (h : ¬ bI b = 0) : b = true := by
  cases b
  · exact absurd rfl h
  · rfl
theorem bI_ff {b : Bool} (h : bI b = 0) : b = false := (bI_b b).mp h
theorem nar_b (b : Bool) : narrow .boolean (.int (bI b)) = .int (bI b) := by cases b <;> rfl
theorem vnar_b (b : Bool) : vp_nar .boolean (bI b) = bI b := by cases b <;> rfl
def r_arm (a : Int32) : Int32 := if a < 0 then -1 else a - 1
def r_or (b d : Option Nat) : Option Nat := match b with
  | some p => some p
  | none => d
def r_best (r : r_T) : Nat → Nat → Option Nat
  | 0, _ => none
  | n + 1, o => r_or (r_low (fun p => decide (r_free r p = true ∧ r.2.1 2 p = o)) 256 none) (r_best r n (o + 1))
def r_split (P k : Nat) : Nat → r_T → r_T
  | 0, r => r
  | n + 1, r => r_split P k n (r_mk r (P + 2 ^ (k + n)) (k + n) 0)
def r_got (r : r_T) (P k : Nat) : r_T := r_mk (r_split P k (r.2.1 2 P - k) r) P k 1
def r_used (r : r_T) : Int32 := nI (r_sum (fun p => if r.2.2 0 p = 0 then 0 else 1) 256) - nI (r_sum (fun p => if r_free r p = true then 2 ^ r.2.1 2 p else 0) 256)
/-- a block is taken: which, and the state behind it -/
def r_tk (r : r_T) (k : Nat) : Option Nat := if r.1 2 = 0 then none else r_best r (7 - k) k
def r_tks (r : r_T) (k : Nat) : r_T := match r_tk r k with
  | none => (upd (upd r.1 2 (r_arm (r.1 2))) 3 (r.1 3 + 1), r.2)
  | some P => match r_got (upd r.1 2 (r_arm (r.1 2)), r.2) P k with
    | g => (upd (upd g.1 4 (r.1 4 + 1)) 6 (if r.1 6 < r_used g then r_used g else r.1 6), g.2)
def r_join : Nat → r_T → Nat → Nat → r_T
  | 0, r, _, _ => r
  | n + 1, r, f, k => if k < 6 ∧ r_free r (f ^^^ 2 ^ k) = true ∧ r.2.1 2 (f ^^^ 2 ^ k) = k then r_join n (r_mk r (min f (f ^^^ 2 ^ k)) (k + 1) 0) (min f (f ^^^ 2 ^ k)) (k + 1) else r
def r_gvs (r : r_T) (P : Nat) : r_T := match r_join (6 - r.2.1 2 P) (r_mk r P (r.2.1 2 P) 0) P (r.2.1 2 P) with
  | g => (upd g.1 5 (r.1 5 + 1), g.2)
def r_au (us : Nat → Int32) : Nat → Nat → Bool
  | 0, _ => true
  | n + 1, p => decide (p < 256 ∧ ¬ us p = 0) && r_au us n (p + 1)
def r_so (us : Nat → Int32) (P : Nat) : Nat → Nat
  | 0 => 0
  | k + 1 => if P % 2 ^ (k + 1) = 0 ∧ r_au us (2 ^ (k + 1)) P = true then k + 1 else r_so us P k
def r_st (us : Nat → Int32) : Nat → Nat → r_T → r_T
  | 0, _, r => r
  | n + 1, p, r => if p < 256 then (if us p = 0 then r_st us n (p + 1) r else r_st us n (p + 2 ^ r_so us p 6) (r_mk r p (r_so us p 6) 0)) else r
theorem al_min : ∀ k, k < 6 → ∀ f, f < 256 → f % 2 ^ k = 0 → (min f (f ^^^ 2 ^ k)) % 2 ^ (k + 1) = 0 ∧ min f (f ^^^ 2 ^ k) + 2 ^ (k + 1) ≤ 256 := by decide +kernel
theorem al_end : ∀ k, k < 7 → ∀ f, f < 256 → f % 2 ^ k = 0 → f + 2 ^ k ≤ 256 := by decide +kernel
theorem r_mk_fo {r : r_T} {P k : Nat} {b : Int32} (h : ∀ p, r.2.1 1 p < 256) (hP : P < 256) : ∀ p, (r_mk r P k b).2.1 1 p < 256 := by
  intro p
  show r_run (r.2.1 1) P (2 ^ k) P p < 256
  rw [r_run_at]
  split
  · exact hP
  · exact h p
theorem r_mk_oo {r : r_T} {P k : Nat} {b : Int32} (h : ∀ p, r.2.1 2 p ≤ 6) (hk : k ≤ 6) : ∀ p, (r_mk r P k b).2.1 2 p ≤ 6 := by
  intro p
  show va_up (r.2.1 2) P k p ≤ 6
  unfold va_up
  split
  · exact hk
  · exact h p
theorem r_low_some {g : Nat → Bool} : ∀ (n : Nat) (b : Option Nat) (p : Nat), r_low g n b = some p → (p < n ∧ g p = true) ∨ b = some p := by
  intro n
  induction n with
  | zero => intro b p h; exact Or.inr h
  | succ n ih =>
    intro b p h
    unfold r_low at h
    rcases ih _ _ h with h1 | h1
    · exact Or.inl ⟨by omega, h1.2⟩
    · by_cases hg : g n = true
      · rw [if_pos hg] at h1
        cases h1
        exact Or.inl ⟨by omega, hg⟩
      · rw [if_neg hg] at h1
        exact Or.inr h1
theorem r_best_some {r : r_T} : ∀ (n o p : Nat), r_best r n o = some p → p < 256 ∧ r_free r p = true ∧ o ≤ r.2.1 2 p ∧ r.2.1 2 p < o + n := by
  intro n
  induction n with
  | zero => intro o p h; cases h
  | succ n ih =>
    intro o p h
    unfold r_best r_or at h
    split at h
    · rename_i q hq
      cases h
      rcases r_low_some 256 none _ hq with h1 | h1
      · have h2 := of_decide_eq_true h1.2
        exact ⟨h1.1, h2.1, by omega, by omega⟩
      · cases h1
    · have := ih (o + 1) p h
      exact ⟨this.1, this.2.1, by omega, by omega⟩
theorem r_au_lt {us : Nat → Int32} : ∀ (n p : Nat), r_au us n p = true → 0 < n → p + n ≤ 256 := by
  intro n
  induction n with
  | zero => intro p h h0; omega
  | succ n ih =>
    intro p h h0
    unfold r_au at h
    rw [Bool.and_eq_true] at h
    have h1 := of_decide_eq_true h.1
    rcases Nat.eq_zero_or_pos n with hn | hn
    · omega
    · have := ih (p + 1) h.2 hn
      omega
theorem r_so_le {us : Nat → Int32} {P : Nat} : ∀ k, r_so us P k ≤ k := by
  intro k
  induction k with
  | zero => exact Nat.le_refl 0
  | succ k ih =>
    unfold r_so
    split
    · exact Nat.le_refl _
    · omega
theorem r_so_in {us : Nat → Int32} {P : Nat} (hP : P < 256) : ∀ k, P + 2 ^ r_so us P k ≤ 256 := by
  intro k
  induction k with
  | zero => show P + 1 ≤ 256; omega
  | succ k ih =>
    unfold r_so
    split
    · rename_i h
      exact r_au_lt _ _ h.2 (Nat.two_pow_pos _)
    · exact ih
theorem r_split_sc (P k : Nat) : ∀ (n : Nat) (r : r_T), (r_split P k n r).1 = r.1 := by
  intro n
  induction n with
  | zero => intro r; rfl
  | succ n ih => intro r; unfold r_split; rw [ih]; rfl
theorem r_got_sc (r : r_T) (P k : Nat) : (r_got r P k).1 = r.1 := r_split_sc P k _ r
theorem r_join_end {r : r_T} {f j : Nat} (h : ¬ (j < 6 ∧ r_free r (f ^^^ 2 ^ j) = true ∧ r.2.1 2 (f ^^^ 2 ^ j) = j)) : r_join (6 - j) r f j = r := by
  by_cases hj : j < 6
  · rw [show 6 - j = (5 - j) + 1 by omega]
    exact if_neg h
  · rw [show 6 - j = 0 by omega]
    rfl
theorem r_join_go {r : r_T} {f j : Nat} (hj : j < 6) (h : r_free r (f ^^^ 2 ^ j) = true ∧ r.2.1 2 (f ^^^ 2 ^ j) = j) : r_join (6 - j) r f j = r_join (6 - (j + 1)) (r_mk r (min f (f ^^^ 2 ^ j)) (j + 1) 0) (min f (f ^^^ 2 ^ j)) (j + 1) := by
  rw [show 6 - j = (6 - (j + 1)) + 1 by omega]
  exact if_pos ⟨hj, h⟩
theorem r_join_sc : ∀ (n : Nat) (r : r_T) (f k : Nat), (r_join n r f k).1 = r.1 := by
  intro n
  induction n with
  | zero => intro r f k; rfl
  | succ n ih =>
    intro r f k
    unfold r_join
    split
    · rw [ih]; rfl
    · rfl
theorem nI_xor1 : ∀ k, k < 7 → ∀ f, f < 256 → nI f ^^^ nI (2 ^ k) = nI (f ^^^ 2 ^ k) := fun k _ f _ => nI_xor f (2 ^ k)
