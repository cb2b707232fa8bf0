theorem in_of {x : Int32} {M : Nat} (hM : M < 65536) (h : 0 ≤ x ∧ x ≤ nI M) : ∃ k : Nat, k ≤ M ∧ x = nI k := by
  obtain ⟨j, hj, rfl⟩ := nI_of (x := x) (Int32.not_lt.mpr h.1)
  exact ⟨j, (nI_leI hj (by omega)).mp h.2, rfl⟩
theorem in_nI {k M : Nat} (hM : M < 65536) (h : k ≤ M) : 0 ≤ nI k ∧ nI k ≤ nI M := ⟨nI_pos' (by omega), nI_le h (by omega)⟩
def r_fi (r : r_T) (x : Int32) : Bool := decide (0 ≤ x ∧ x ≤ 255) && r_first r x.toNatClampNeg
theorem r_fi_nI {r : r_T} {z : Nat} (hz : z < 256) : r_fi r (nI z) = r_first r z := by
  unfold r_fi
  rw [decide_eq_true (show 0 ≤ nI z ∧ nI z ≤ 255 from in_nI (M := 255) (by decide) (by omega)), cl_nI hz, Bool.true_and]
theorem r_fi_out {r : r_T} {x : Int32} (hx : ¬ (0 ≤ x ∧ x ≤ 255)) : r_fi r x = false := by
  unfold r_fi
  rw [decide_eq_false hx, Bool.false_and]
theorem m_X5_isFirst_any (l : Launch) (G : z_G) (base : Nat) (xs : Nat → va_E) (r : r_T) (tl : List va_E) (hfo : ∀ p, r.2.1 1 p < 256) (x : Int32) (H1 : ∀ z, z < 256 → z_M l G base yX5_isFirst cX5_isFirst 2 (some .boolean) 1 0 0 [.ref (base + 16), .int (nI z)] (hpM G base xs r tl) (fun v hp' => v = some (.int (bI (r_first r z))) ∧ hp' = hpM G base xs r tl)) (H2 : ¬ (0 ≤ x ∧ x ≤ 255) → z_M l G base yX5_isFirst cX5_isFirst 2 (some .boolean) 1 0 0 [.ref (base + 16), .int x] (hpM G base xs r tl) (fun v hp' => v = some (.int 0) ∧ hp' = hpM G base xs r tl)) : z_M l G base yX5_isFirst cX5_isFirst 2 (some .boolean) 1 0 0 [.ref (base + 16), .int x] (hpM G base xs r tl) (fun v hp' => v = some (.int (bI (r_fi r x))) ∧ hp' = hpM G base xs r tl) := by
  by_cases hx : 0 ≤ x ∧ x ≤ 255
  · obtain ⟨z, hz, rfl⟩ := in_of (M := 255) (by decide) hx
    rw [r_fi_nI (by omega)]
    exact H1 z (by omega)
  · rw [r_fi_out hx]
    exact H2 hx
def r_fp (r : r_T) (x : Int32) : Int32 := if r_fi r x = true then (if r.2.2 1 x.toNatClampNeg = 0 then -3 else if 0 ≤ r.2.2 2 x.toNatClampNeg then -2 else 0) else -2
theorem r_fi_true {r : r_T} {x : Int32} (h : r_fi r x = true) : ∃ z, z < 256 ∧ x = nI z ∧ r_first r z = true := by
  unfold r_fi at h
  rw [Bool.and_eq_true] at h
  obtain ⟨z, hz, rfl⟩ := in_of (M := 255) (by decide) (of_decide_eq_true h.1)
  rw [cl_nI (by omega)] at h
  exact ⟨z, by omega, rfl, h.2⟩
theorem r_fp_cases (r : r_T) (x : Int32) : r_fp r x = -2 ∨ r_fp r x = -3 ∨ (r_fp r x = 0 ∧ ∃ z, z < 256 ∧ x = nI z ∧ r_first r z = true ∧ ¬ r.2.2 1 z = 0 ∧ ¬ 0 ≤ r.2.2 2 z) := by
  by_cases h : r_fi r x = true
  · obtain ⟨z, hz, rfl, hf⟩ := r_fi_true h
    unfold r_fp
    rw [if_pos h, cl_nI hz]
    by_cases h1 : r.2.2 1 z = 0
    · rw [if_pos h1]; exact Or.inr (Or.inl rfl)
    · rw [if_neg h1]
      by_cases h2 : 0 ≤ r.2.2 2 z
      · rw [if_pos h2]; exact Or.inl rfl
      · rw [if_neg h2]; exact Or.inr (Or.inr ⟨rfl, z, hz, rfl, hf, h1, h2⟩)
  · unfold r_fp
    rw [if_neg h]
    exact Or.inl rfl
/-- freePages: the answer and the state -/
def r_fpA (r : r_T) (x : Int32) : Int32 := if r_fp r x = 0 then nI (2 ^ r.2.1 2 x.toNatClampNeg) else r_fp r x
def r_fpS (r : r_T) (x : Int32) : r_T := if r_fp r x = 0 then r_gvs r x.toNatClampNeg else r
def r_pgA (r : r_T) (x : Int32) : Int32 := if ¬ r.1 0 = 0 ∧ 0 ≤ x ∧ x ≤ 6 then oI (r_tk r x.toNatClampNeg) else -1
def r_pgS (r : r_T) (x : Int32) : r_T := if ¬ r.1 0 = 0 ∧ 0 ≤ x ∧ x ≤ 6 then r_tks r x.toNatClampNeg else r
def r_tell : Nat → Nat → (Nat → Int32) → (Nat → Int32)
  | 0, _, f => f
  | n + 1, p, f => r_tell n (p + 1) (upd f p 1)
def r_usB (r : r_T) (x y : Int32) : Bool := decide (r.1 0 = 0 ∧ (0 ≤ x ∧ x ≤ 255) ∧ x ≤ y ∧ y ≤ 255)
def r_usS (r : r_T) (x y : Int32) : r_T := if r_usB r x y = true then (r.1, r.2.1, va_up r.2.2 0 (r_tell (y.toNatClampNeg + 1 - x.toNatClampNeg) x.toNatClampNeg (r.2.2 0))) else r
def r_isc (r : r_T) (x : Int32) : Bool := decide (0 ≤ x ∧ x ≤ r.1 1 - 1)
def r_live (r : r_T) (p : Nat) : Nat := r_ob r (r.2.2 2 p).toNatClampNeg - r.2.1 4 p
def r_rdA (r : r_T) (x : Int32) : Int32 := if 0 ≤ x ∧ x ≤ 16383 then nI (r.2.1 0 x.toNatClampNeg) else -1
def r_wrS (r : r_T) (x y : Int32) : r_T := if 0 ≤ x ∧ x ≤ 16383 then (r.1, va_up r.2.1 0 (va_up (r.2.1 0) x.toNatClampNeg (y.toBitVec.toNat % 256)), r.2.2) else r
def r_armS (r : r_T) (x : Int32) : r_T := if 0 ≤ x ∧ x ≤ 100 then (upd r.1 2 x, r.2) else r
def r_bk (r : r_T) (x : Int32) : Option Nat := if ¬ r.1 0 = 0 ∧ (0 ≤ x ∧ x ≤ 255) ∧ ¬ r.2.2 0 x.toNatClampNeg = 0 then some (r.2.1 1 x.toNatClampNeg) else none
def r_opA (r : r_T) (x : Int32) : Int32 := if 0 ≤ x ∧ x ≤ 255 then (match r_bk r x with
  | none => -1
  | some f => if r.2.2 1 f = 0 then 0 else if 0 ≤ r.2.2 2 f then 2 + r.2.2 2 f else 1) else -2
def r_orA (r : r_T) (x : Int32) : Int32 := match r_bk r x with
  | none => -1
  | some f => nI (r.2.1 2 f)
