/-! the reference's state: numbers, arrays of numbers, arrays of ints -/
abbrev r_T : Type := (Nat → Int32) × (Nat → Nat → Nat) × (Nat → Nat → Int32)
def q_aZ (G : z_G) (n : Nat) (f : Nat → Int32) : va_E := .inl (G.2 2, n, .inl f)
def q_aJ (G : z_G) (n : Nat) (f : Nat → Int32) : va_E := .inl (G.2 0, n, .inl f)
def r_obj (base : Nat) (a : Nat → Int32) : va_E := .inr (5, [.ref (base + 17), .int (a 0), .ref (base + 18), .ref (base + 19), .ref (base + 20), .ref (base + 21), .ref (base + 22), .ref (base + 23), .ref (base + 24), .int (a 1), .ref (base + 25), .ref (base + 26), .ref (base + 27), .ref (base + 28), .ref (base + 29), .int (a 2), .int (a 3), .int (a 4), .int (a 5), .int (a 6)])
def r_cells (G : z_G) (base : Nat) (r : r_T) : List va_E := [r_obj base r.1, q_aI G 16384 (r.2.1 0), q_aZ G 256 (r.2.2 0), q_aI G 256 (r.2.1 1), q_aI G 256 (r.2.1 2), q_aZ G 256 (r.2.2 1), q_aJ G 256 (r.2.2 2), q_aI G 16384 (r.2.1 3), q_aI G 256 (r.2.1 4), q_aI G 12 (r.2.1 5), q_aI G 12 (r.2.1 6), q_aI G 12 (r.2.1 7), q_aI G 12 (r.2.1 8), q_aJ G 12 (r.2.2 3)]
def hpM (G : z_G) (base : Nat) (xs : Nat → va_E) (r : r_T) (tl : List va_E) : List va_E :=
  xs 0 :: xs 1 :: xs 2 :: xs 3 :: xs 4 :: xs 5 :: xs 6 :: xs 7 :: xs 8 :: xs 9 :: xs 10 :: xs 11 :: xs 12 :: xs 13 :: xs 14 :: xs 15 :: (r_cells G base r ++ tl)
def r_sum (g : Nat → Nat) : Nat → Nat
  | 0 => 0
  | n + 1 => r_sum g n + g n
def r_first (r : r_T) (p : Nat) : Bool := decide (¬ r.1 0 = 0 ∧ ¬ r.2.2 0 p = 0 ∧ r.2.1 1 p = p)
def r_free (r : r_T) (p : Nat) : Bool := decide (r_first r p = true ∧ r.2.2 1 p = 0)
def r_slab (r : r_T) (p : Nat) (c : Nat) : Bool := decide (r_first r p = true ∧ ¬ r.2.2 1 p = 0 ∧ r.2.2 2 p = nI c)
def r_ob (r : r_T) (c : Nat) : Nat := 64 * 2 ^ r.2.1 8 c / r.2.1 7 c
def r_low (g : Nat → Bool) : Nat → Option Nat → Option Nat
  | 0, b => b
  | n + 1, b => r_low g n (if g n then some n else b)
/-- a run of pages gets one first page -/
def r_run (f : Nat → Nat) (P : Nat) : Nat → Nat → Nat → Nat
  | 0, _ => f
  | n + 1, z => r_run (va_up f z P) P n (z + 1)
def r_mk (r : r_T) (P k : Nat) (b : Int32) : r_T := (r.1, va_up (va_up r.2.1 1 (r_run (r.2.1 1) P (2 ^ k) P)) 2 (va_up (r.2.1 2) P k), va_up (va_up r.2.2 1 (upd (r.2.2 1) P b)) 2 (upd (r.2.2 2) P (-1)))
theorem r_run_at (P : Nat) : ∀ (n z : Nat) (f : Nat → Nat) (p : Nat), r_run f P n z p = if z ≤ p ∧ p < z + n then P else f p := by
  intro n
  induction n with
  | zero => intro z f p; unfold r_run; rw [if_neg (by omega)]
  | succ n ih =>
    intro z f p
    unfold r_run
    rw [ih]
    by_cases h : z + 1 ≤ p ∧ p < z + 1 + n
    · rw [if_pos h, if_pos (by omega)]
    · rw [if_neg h]
      unfold va_up
      by_cases hz : p = z
      · rw [if_pos hz, if_pos (by omega)]
      · rw [if_neg hz, if_neg (by omega)]
theorem bI_b (b : Bool) : bI b = 0 ↔ b = false := by cases b <;> decide
theorem bI_nt {b : Bool} (h : ¬ bI b = 0) : b = true := by
  cases b
  · exact absurd rfl h
  · rfl
theorem bI_ff {b : Bool} (h : bI b = 0) : b = false := (bI_b b).mp h
theorem nar_b (b : Bool) : narrow .boolean (.int (bI b)) = .int (bI b) := by cases b <;> rfl
theorem vnar_b (b : Bool) : vp_nar .boolean (bI b) = bI b := by cases b <;> rfl
