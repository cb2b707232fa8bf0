/-- the slab at an address -/
def r_sa (r : r_T) (x : Int32) : Option Nat := if ¬ r.1 0 = 0 ∧ (0 ≤ x ∧ x ≤ 16383) ∧ ¬ r.2.2 0 (x.toNatClampNeg / 64) = 0 then (if ¬ r.2.2 1 (r.2.1 1 (x.toNatClampNeg / 64)) = 0 ∧ 0 ≤ r.2.2 2 (r.2.1 1 (x.toNatClampNeg / 64)) then some (r.2.1 1 (x.toNatClampNeg / 64)) else none) else none
def r_has (f : Nat → Nat) (b k : Nat) : Nat → Nat → Bool
  | 0, _ => false
  | n + 1, j => decide (f (b + j) = k) || r_has f b k n (j + 1)
def r_fob (r : r_T) (P a c : Nat) : Int32 := if (a - 64 * P) % r.2.1 7 c = 0 ∧ (a - 64 * P) / r.2.1 7 c < r_ob r c then (if r_has (r.2.1 3) (64 * P) ((a - 64 * P) / r.2.1 7 c) (r.2.1 4 P) 0 = true then -3 else 0) else -2
/-- an object comes back to its slab's row -/
def r_go1 (r : r_T) (P k : Nat) : r_T := (r.1, va_up (va_up r.2.1 3 (va_up (r.2.1 3) (64 * P + r.2.1 4 P) k)) 4 (va_up (r.2.1 4) P (r.2.1 4 P + 1)), r.2.2)
def r_goS (r : r_T) (P k c : Nat) : r_T := if r_ob r c - (r.2.1 4 P + 1) = 0 then (if r.2.2 3 c < 0 then (r.1, (r_go1 r P k).2.1, va_up r.2.2 3 (upd (r.2.2 3) c (nI P))) else r_gvs (r_go1 r P k) P) else r_go1 r P k
def r_rowf (b m : Nat) : Nat → Nat → (Nat → Nat) → (Nat → Nat)
  | 0, _, f => f
  | n + 1, k, f => r_rowf b m n (k + 1) (va_up f (b + k) (m - 1 - k))
def r_ns1 (t : r_T) (P c n : Nat) : r_T := (t.1, va_up (va_up t.2.1 3 (r_rowf (64 * P) n n 0 (t.2.1 3))) 4 (va_up (t.2.1 4) P n), va_up t.2.2 2 (upd (t.2.2 2) P (nI c)))
def r_nsS (r : r_T) (c : Nat) : r_T := match r_tk r (r.2.1 8 c) with
  | none => r_tks r (r.2.1 8 c)
  | some P => r_ns1 (r_tks r (r.2.1 8 c)) P c (r_ob r c)
def r_part (r : r_T) (c : Nat) : Option Nat := r_low (fun p => decide (r_slab r p c = true ∧ 0 < r.2.1 4 p ∧ 0 < r_ob r c - r.2.1 4 p)) 256 none
def r_toP (r : r_T) (c : Nat) : Option Nat := match r_part r c with
  | some p => some p
  | none => if 0 ≤ r.2.2 3 c then some (r.2.2 3 c).toNatClampNeg else r_tk r (r.2.1 8 c)
def r_to1 (r : r_T) (c : Nat) : r_T := match r_part r c with
  | some _ => r
  | none => if 0 ≤ r.2.2 3 c then (r.1, r.2.1, va_up r.2.2 3 (upd (r.2.2 3) c (-1))) else r_nsS r c
def r_to2 (r : r_T) (P : Nat) : r_T := (r.1, va_up r.2.1 4 (va_up (r.2.1 4) P (r.2.1 4 P - 1)), r.2.2)
def r_toS (r : r_T) (c : Nat) : r_T := match r_toP r c with
  | none => r_to1 r c
  | some P => r_to2 (r_to1 r c) P
def r_toO (r : r_T) (c : Nat) : Option Nat := match r_toP r c with
  | none => none
  | some P => some (64 * P + r.2.1 7 c * (r_to1 r c).2.1 3 (64 * P + ((r_to1 r c).2.1 4 P - 1)))
theorem sa_out {r : r_T} {x : Int32} (h : ¬ (¬ r.1 0 = 0 ∧ (0 ≤ x ∧ x ≤ 16383) ∧ ¬ r.2.2 0 (x.toNatClampNeg / 64) = 0)) : r_sa r x = none := if_neg h
theorem r_sa_some {r : r_T} {x : Int32} {P : Nat} (h : r_sa r x = some P) : ∃ a, a < 16384 ∧ x = nI a ∧ ¬ r.1 0 = 0 ∧ ¬ r.2.2 0 (a / 64) = 0 ∧ P = r.2.1 1 (a / 64) ∧ ¬ r.2.2 1 P = 0 ∧ 0 ≤ r.2.2 2 P := by
  unfold r_sa at h
  split at h
  · rename_i h1
    split at h
    · rename_i h2
      obtain ⟨a, ha, rfl⟩ := in_of (M := 16383) (by decide) h1.2.1
      rw [nI_clamp (by omega)] at h h1 h2
      cases h
      exact ⟨a, by omega, rfl, h1.1, h1.2.2, rfl, h2.1, h2.2⟩
    · cases h
  · cases h
theorem r_isc_true {r : r_T} {x : Int32} {nc : Nat} (h : r.1 1 = nI nc) (h2 : nc ≤ 12) (hi : r_isc r x = true) : ∃ c, c < nc ∧ x = nI c := by
  have h3 := of_decide_eq_true hi
  rw [h] at h3
  rcases Nat.eq_zero_or_pos nc with z | z
  · rw [z] at h3
    exact absurd (Int32.le_trans h3.1 h3.2) (by decide)
  · rw [show nI nc - 1 = nI (nc - 1) from pk_sub (b := 1) z] at h3
    obtain ⟨c, hc, rfl⟩ := in_of (by omega) h3
    exact ⟨c, by omega, rfl⟩
def r_shA (r : r_T) (x : Int32) : Int32 := if r_isc r x = true then (if 0 ≤ r.2.2 3 x.toNatClampNeg then nI (2 ^ r.2.1 2 (r.2.2 3 x.toNatClampNeg).toNatClampNeg) else 0) else -1
def r_shS (r : r_T) (x : Int32) : r_T := if r_isc r x = true then (if 0 ≤ r.2.2 3 x.toNatClampNeg then r_gvs (r.1, r.2.1, va_up r.2.2 3 (upd (r.2.2 3) x.toNatClampNeg (-1))) (r.2.2 3 x.toNatClampNeg).toNatClampNeg else (r.1, r.2.1, va_up r.2.2 3 (upd (r.2.2 3) x.toNatClampNeg (-1)))) else r
/-! by size -/
def k_c1 (b : Nat) : Nat → Nat → Nat
  | 0, j => j
  | n + 1, j => if 8 * 2 ^ j < b then k_c1 b n (j + 1) else j
def k_c2 (b : Nat) : Nat → Nat → Nat
  | 0, j => j
  | n + 1, j => if 64 * 2 ^ j < b then k_c2 b n (j + 1) else j
def k_cls (b : Nat) : Nat := if k_c1 b 6 0 < 6 ∧ b ≤ 256 then k_c1 b 6 0 else 6 + k_c2 b 6 0
def k_bytes (k : Nat) : Nat := if k < 6 then 8 * 2 ^ k else 64 * 2 ^ (k - 6)
theorem nI_8 : ∀ k, k < 7 → (8 : Int32) <<< (nI k &&& 31) = nI (8 * 2 ^ k) := by decide +kernel
theorem k_8 : ∀ k, k < 7 → 8 * 2 ^ k ≤ 512 := by decide
theorem k_64 : ∀ k, k < 7 → 64 * 2 ^ k ≤ 4096 := by decide
theorem k_c1_go {b j : Nat} (hj : j < 6) (h : 8 * 2 ^ j < b) : k_c1 b (6 - j) j = k_c1 b (6 - (j + 1)) (j + 1) := by
  rw [show 6 - j = (6 - (j + 1)) + 1 by omega]
  exact if_pos h
theorem k_c1_end {b j : Nat} (h : ¬ (j < 6 ∧ 8 * 2 ^ j < b)) : k_c1 b (6 - j) j = j := by
  by_cases hj : j < 6
  · rw [show 6 - j = (5 - j) + 1 by omega]
    exact if_neg (fun q => h ⟨hj, q⟩)
  · rw [show 6 - j = 0 by omega]
    rfl
theorem k_c2_go {b j : Nat} (hj : 64 * 2 ^ j < b → j < 6) (h : 64 * 2 ^ j < b) : k_c2 b (6 - j) j = k_c2 b (6 - (j + 1)) (j + 1) := by
  have := hj h
  rw [show 6 - j = (6 - (j + 1)) + 1 by omega]
  exact if_pos h
theorem k_c2_end {b j : Nat} (h : ¬ 64 * 2 ^ j < b) : k_c2 b (6 - j) j = j := by
  by_cases hj : j < 6
  · rw [show 6 - j = (5 - j) + 1 by omega]
    exact if_neg h
  · rw [show 6 - j = 0 by omega]
    rfl
