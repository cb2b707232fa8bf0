/-- what the reference's methods ask of its state -/
def r_wf (r : r_T) (nc : Nat) : Prop :=
  ((∀ p, r.2.1 1 p < 256) ∧ (∀ p, r.2.1 2 p ≤ 6) ∧ (∀ i, r.2.1 3 i < 65536) ∧ (∀ p, r.2.1 4 p ≤ 64)) ∧
  (∀ c, c < nc → 1 ≤ r.2.1 7 c ∧ r.2.1 7 c < 65536 ∧ r.2.1 8 c ≤ 4 ∧ 1 ≤ r_ob r c ∧ r_ob r c ≤ 64) ∧
  (r.1 1 = nI nc ∧ 6 ≤ nc ∧ nc ≤ 12) ∧
  (∀ p, p < 256 → r_first r p = true → p % 2 ^ r.2.1 2 p = 0) ∧
  (∀ a P, a < 16384 → r_sa r (nI a) = some P → P < 256 ∧ r_first r P = true ∧ 64 * P ≤ a ∧ ∃ c, c < nc ∧ r.2.2 2 P = nI c ∧ (r_fob r P a c = 0 → r.2.1 4 P + 1 ≤ r_ob r c)) ∧
  (∀ p c, p < 256 → c < nc → r_slab r p c = true → r.2.1 4 p ≤ r_ob r c) ∧
  (∀ c, c < nc → 0 ≤ r.2.2 3 c → ∃ P, P < 256 ∧ r.2.2 3 c = nI P ∧ 1 ≤ r.2.1 4 P ∧ P % 2 ^ r.2.1 2 P = 0)
theorem r_wf.al {r : r_T} {nc : Nat} (h : r_wf r nc) : ∀ p, p < 256 → r_free r p = true → p + 2 ^ r.2.1 2 p ≤ 256 := fun p hp hf =>
  al_end _ (Nat.lt_succ_of_le (h.1.2.1 p)) p hp (h.2.2.2.1 p hp (of_decide_eq_true hf).1)
theorem r_fob_cases (r : r_T) (P a c : Nat) : r_fob r P a c = -2 ∨ r_fob r P a c = -3 ∨ r_fob r P a c = 0 := by
  unfold r_fob
  split
  · split
    · exact Or.inr (Or.inl rfl)
    · exact Or.inr (Or.inr rfl)
  · exact Or.inl rfl
/-- give: the answer, the state -/
def r_gvI (r : r_T) (x y : Int32) : Option (Nat × Nat × Nat) := match r_sa r y with
  | none => none
  | some P => if r_isc r x = true ∧ r.2.2 2 P = x then some (P, y.toNatClampNeg, x.toNatClampNeg) else none
def r_gvA (r : r_T) (x y : Int32) : Int32 := match r_gvI r x y with
  | none => -2
  | some (P, a, c) => if r_fob r P a c = 0 then nI (r_ob r c - (r.2.1 4 P + 1)) else r_fob r P a c
def r_gvT (r : r_T) (x y : Int32) : r_T := match r_gvI r x y with
  | none => r
  | some (P, a, c) => if r_fob r P a c = 0 then r_goS r P ((a - 64 * P) / r.2.1 7 c) c else r
def r_ca (r : r_T) (x : Int32) : Int32 := match r_sa r x with
  | some P => if 5 < r.2.2 2 P then -2 else (if r_fob r P x.toNatClampNeg (r.2.2 2 P).toNatClampNeg = 0 then r.2.2 2 P else r_fob r P x.toNatClampNeg (r.2.2 2 P).toNatClampNeg)
  | none => if x < 0 ∨ ¬ x.toNatClampNeg % 64 = 0 then -2 else (if r_fp r (nI (x.toNatClampNeg / 64)) = 0 then nI (6 + r.2.1 2 (x.toNatClampNeg / 64)) else r_fp r (nI (x.toNatClampNeg / 64)))
def r_rlS (r : r_T) (a k : Nat) : r_T := if k < 6 then (match r_sa r (nI a) with
  | some P => r_goS r P ((a - 64 * P) / r.2.1 7 k) k
  | none => r) else r_gvs r (a / 64)
theorem r_ca_cases {r : r_T} {nc : Nat} (hw : r_wf r nc) (x : Int32) : r_ca r x = -2 ∨ r_ca r x = -3 ∨
    (∃ a P c, a < 16384 ∧ x = nI a ∧ r_sa r x = some P ∧ c < 6 ∧ c < nc ∧ r.2.2 2 P = nI c ∧ r_fob r P a c = 0 ∧ r_ca r x = nI c ∧ P < 256 ∧ r_first r P = true ∧ 64 * P ≤ a ∧ r.2.1 4 P + 1 ≤ r_ob r c) ∨
    (∃ a, a < 16384 ∧ x = nI a ∧ a % 64 = 0 ∧ r_fp r (nI (a / 64)) = 0 ∧ r_ca r x = nI (6 + r.2.1 2 (a / 64)) ∧ r_first r (a / 64) = true) := by
  rcases opt_cases (r_sa r x) with hs | ⟨P, hs⟩
  · by_cases hx : x < 0 ∨ ¬ x.toNatClampNeg % 64 = 0
    · exact Or.inl (by unfold r_ca; rw [hs]; exact if_pos hx)
    · obtain ⟨a, ha, rfl⟩ := nI_of (x := x) (fun q => hx (Or.inl q))
      rw [nI_clamp ha] at hx
      have h64 : a % 64 = 0 := by
        rcases Nat.eq_zero_or_pos (a % 64) with z | z
        · exact z
        · exact absurd (Or.inr (by omega)) hx
      have e : r_ca r (nI a) = if r_fp r (nI (a / 64)) = 0 then nI (6 + r.2.1 2 (a / 64)) else r_fp r (nI (a / 64)) := by
        unfold r_ca
        rw [hs]
        show (if _ then _ else _) = _
        rw [nI_clamp ha, if_neg hx]
      rcases r_fp_cases r (nI (a / 64)) with h | h | ⟨h, z, hz, hze, hf, -, -⟩
      · exact Or.inl (by rw [e, if_neg (by rw [h]; decide), h])
      · exact Or.inr (Or.inl (by rw [e, if_neg (by rw [h]; decide), h]))
      · have hz2 : a / 64 = z := (nI_eq (by omega) (by omega)).mp hze
        exact Or.inr (Or.inr (Or.inr ⟨a, by omega, rfl, h64, h, by rw [e, if_pos h], by rw [hz2]; exact hf⟩))
  · obtain ⟨a, ha, rfl, -, -, -, -, hcc⟩ := r_sa_some hs
    obtain ⟨h1, h2, h3, c, hc, hcP, h4⟩ := hw.2.2.2.2.1 a P ha hs
    have hc12 := hw.2.2.1.2.2
    have e : r_ca r (nI a) = if 5 < nI c then -2 else (if r_fob r P a c = 0 then nI c else r_fob r P a c) := by
      unfold r_ca
      rw [hs]
      show (if _ then _ else _) = _
      rw [hcP, nI_clamp (n := a) (by omega), nI_clamp (n := c) (by omega)]
    by_cases h5 : (5 : Int32) < nI c
    · exact Or.inl (by rw [e, if_pos h5])
    · have hc6 : c < 6 := by
        rcases Nat.lt_or_ge c 6 with z | z
        · exact z
        · exact absurd (nI_lt (a := 5) (b := c) (by omega) (by omega)) h5
      rcases r_fob_cases r P a c with h | h | h
      · exact Or.inl (by rw [e, if_neg h5, if_neg (by rw [h]; decide), h])
      · exact Or.inr (Or.inl (by rw [e, if_neg h5, if_neg (by rw [h]; decide), h]))
      · exact Or.inr (Or.inr (Or.inl ⟨a, P, c, ha, rfl, hs, hc6, hc, hcP, h, by rw [e, if_neg h5, if_pos h], h1, h2, h3, h4 h⟩))
def r_szA (r : r_T) (x : Int32) : Int32 := if r_ca r x < 0 then r_ca r x else nI (k_bytes (r_ca r x).toNatClampNeg)
def r_frS (r : r_T) (x : Int32) : r_T := if r_ca r x < 0 then r else r_rlS r x.toNatClampNeg (r_ca r x).toNatClampNeg
def r_alO (r : r_T) (b : Nat) : Option Nat := if k_cls b < 6 then r_toO r (k_cls b) else (match r_tk r (k_cls b - 6) with
  | none => none
  | some P => some (64 * P))
def r_alS (r : r_T) (b : Nat) : r_T := if k_cls b < 6 then r_toS r (k_cls b) else r_tks r (k_cls b - 6)
def r_alB (r : r_T) (x : Int32) : Bool := decide (¬ r.1 0 = 0 ∧ 1 ≤ x ∧ x ≤ 4096)
theorem k_cls_le {b : Nat} : k_cls b ≤ 12 := by
  have h1 : ∀ (n j : Nat), k_c2 b n j ≤ n + j := by
    intro n
    induction n with
    | zero => intro j; exact Nat.le_of_eq (Nat.zero_add j).symm
    | succ n ih =>
      intro j
      unfold k_c2
      split
      · have := ih (j + 1)
        omega
      · omega
  unfold k_cls
  split
  · omega
  · have := h1 6 0
    omega
theorem r_ca_some {r : r_T} {a P c : Nat} (hs : r_sa r (nI a) = some P) (hcP : r.2.2 2 P = nI c) (ha : a < 2 ^ 31) (hc : c < 2 ^ 31) : r_ca r (nI a) = if 5 < nI c then -2 else (if r_fob r P a c = 0 then nI c else r_fob r P a c) := by
  unfold r_ca
  rw [hs]
  show (if _ then _ else _) = _
  rw [hcP, nI_clamp ha, nI_clamp hc]
theorem r_ca_neg {r : r_T} {x : Int32} (hs : r_sa r x = none) (hx : x < 0) : r_ca r x = -2 := by
  unfold r_ca
  rw [hs]
  exact if_pos (Or.inl hx)
theorem r_ca_none {r : r_T} {a : Nat} (hs : r_sa r (nI a) = none) (ha : a < 2 ^ 31) : r_ca r (nI a) = if ¬ a % 64 = 0 then -2 else (if r_fp r (nI (a / 64)) = 0 then nI (6 + r.2.1 2 (a / 64)) else r_fp r (nI (a / 64))) := by
  unfold r_ca
  rw [hs]
  show (if _ then _ else _) = _
  rw [nI_clamp ha]
  by_cases h : a % 64 = 0
  · rw [if_neg (show ¬ (nI a < 0 ∨ ¬ a % 64 = 0) from fun q => q.elim (nI_pos ha) (fun z => z h)), if_neg (show ¬ ¬ a % 64 = 0 from fun z => z h)]
  · rw [if_pos (Or.inr h), if_pos h]
def r_mcp (mem : Nat → Nat) (a b : Nat) : Nat → Nat → (Nat → Nat)
  | 0, _ => mem
  | n + 1, k => r_mcp (va_up mem (b + k) (mem (a + k))) a b n (k + 1)
def r_setm (r : r_T) (m : Nat → Nat) : r_T := (r.1, va_up r.2.1 0 m, r.2.2)
def r_rsB (r : r_T) (x y : Int32) : Bool := decide (¬ r_ca r x < 0 ∧ (1 ≤ y ∧ y ≤ 4096) ∧ ¬ r_ca r x = nI (k_cls y.toNatClampNeg))
def r_rsA (r : r_T) (x y : Int32) : Int32 := if r_ca r x < 0 then r_ca r x else if 1 ≤ y ∧ y ≤ 4096 then (if r_ca r x = nI (k_cls y.toNatClampNeg) then x else oI (r_alO r y.toNatClampNeg)) else -1
def r_rsS (r : r_T) (x y : Int32) : r_T := if r_rsB r x y = true then (match r_alO r y.toNatClampNeg with
  | none => r_alS r y.toNatClampNeg
  | some t => r_rlS (r_setm (r_alS r y.toNatClampNeg) (r_mcp ((r_alS r y.toNatClampNeg).2.1 0) x.toNatClampNeg t (min (k_bytes (r_ca r x).toNatClampNeg) y.toNatClampNeg) 0)) x.toNatClampNeg (r_ca r x).toNatClampNeg) else r
theorem neg2 : (-2 : Int32) < 0 := by decide
theorem neg3 : (-3 : Int32) < 0 := by decide
theorem k_bytes_le {k : Nat} (h : k ≤ 12) : k_bytes k ≤ 4096 := by
  rcases (show k = 0 ∨ k = 1 ∨ k = 2 ∨ k = 3 ∨ k = 4 ∨ k = 5 ∨ k = 6 ∨ k = 7 ∨ k = 8 ∨ k = 9 ∨ k = 10 ∨ k = 11 ∨ k = 12 by omega) with rfl | rfl | rfl | rfl | rfl | rfl | rfl | rfl | rfl | rfl | rfl | rfl | rfl <;> decide
def r_gU (r : r_T) : Nat → Nat := fun p => if r.2.2 0 p = 0 then 0 else 1
def r_gF (r : r_T) : Nat → Nat := fun p => if r_free r p = true then 2 ^ r.2.1 2 p else 0
def r_gS (r : r_T) (c : Nat) : Nat → Nat := fun p => if r_slab r p c = true then 1 else 0
def r_gL (r : r_T) (c : Nat) : Nat → Nat := fun p => if r_slab r p c = true then r_ob r c - r.2.1 4 p else 0
def r_figs (r : r_T) (c : Nat) : Nat → Int32 := fun w => match w with
  | 0 => nI (r.2.1 5 c)
  | 1 => nI (r.2.1 6 c)
  | 2 => nI (r.2.1 7 c)
  | 3 => nI (r.2.1 8 c)
  | 4 => nI (r_ob r c)
  | 5 => nI (r_sum (r_gS r c) 256)
  | 6 => nI (r_sum (r_gL r c) 256)
  | _ => r.2.2 3 c
def r_ocA (r : r_T) (x y : Int32) : Int32 := if r_isc r x = true then (if y.toInt < 0 ∨ 7 < y.toInt then -1 else r_figs r x.toNatClampNeg y.toNatClampNeg) else -1
def r_cnts (r : r_T) (nc : Nat) : Nat → Int32 := fun w => match w with
  | 0 => nI (r_sum (r_gU r) 256)
  | 1 => nI (r_sum (r_gF r) 256)
  | 2 => r.1 3
  | 3 => r.1 4
  | 4 => r.1 5
  | 5 => nI (r_sum (fun c => r_sum (r_gL r c) 256) nc)
  | 6 => r.1 1
  | 7 => r.1 6
  | _ => r.1 2
def r_cnA (r : r_T) (nc : Nat) (x : Int32) : Int32 := if x.toInt < 0 ∨ 8 < x.toInt then -1 else r_cnts r nc x.toNatClampNeg
theorem tab9 (x : Int32) : (x.toInt < 0 ∨ 8 < x.toInt) ∨ ∃ j : Nat, j < 9 ∧ x = nI j := by
  by_cases h : x.toInt < 0 ∨ 8 < x.toInt
  · exact Or.inl h
  · refine Or.inr ⟨x.toInt.toNat, by omega, Int32.toInt_inj.mp ?_⟩
    rw [nI_toInt (by omega)]
    omega
theorem r_isc_nI {r : r_T} {nc c : Nat} (h : r.1 1 = nI nc) (h2 : nc ≤ 12) (hc : c < nc) : r_isc r (nI c) = true := by
  refine decide_eq_true ⟨nI_pos' (by omega), ?_⟩
  rw [h, show nI nc - 1 = nI (nc - 1) from pk_sub (b := 1) (by omega)]
  exact nI_le (by omega) (by omega)
