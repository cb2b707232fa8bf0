/-! words for the blocks, and numbers -/
def bI (b : Bool) : Int32 := if b then 1 else 0
def oI (o : Option Nat) : Int32 := match o with
  | some n => nI n
  | none => -1
theorem bI_ne {c : Prop} {_ : Decidable c} (h : ¬ bI (decide c) = 0) : c := by
  by_cases hc : c
  · exact hc
  · exact absurd (by simp [bI, hc]) h
theorem bI_eq {c : Prop} {_ : Decidable c} (h : bI (decide c) = 0) : ¬ c := by
  intro hc
  have h1 : bI (decide c) = 1 := by simp [bI, hc]
  rw [h1] at h
  exact absurd h (by decide)
theorem bI_t {c : Prop} {_ : Decidable c} (h : c) : (1 : Int32) = bI (decide c) := by simp [bI, h]
theorem bI_f {c : Prop} {_ : Decidable c} (h : ¬ c) : (0 : Int32) = bI (decide c) := by simp [bI, h]
theorem pg_of {x : Int32} (h : 0 ≤ x ∧ x < 256) : ∃ P : Nat, P < 256 ∧ x = nI P := by
  obtain ⟨j, hj, rfl⟩ := nI_of (x := x) (Int32.not_lt.mpr h.1)
  refine ⟨j, ?_, rfl⟩
  have h2 : nI j < nI 256 := h.2
  exact (nI_ltI hj (by decide)).mp h2
theorem pg_in {P : Nat} (h : P < 256) : 0 ≤ nI P ∧ nI P < 256 := ⟨nI_pos' (by omega), (nI_lt (b := 256) h (by decide))⟩
theorem cl_nI {P : Nat} (h : P < 256) : (nI P).toNatClampNeg = P := nI_clamp (by omega)
theorem nI_1lt : ∀ k, k < 16 → (1 : Int32) <<< (nI k &&& 31) = nI (2 ^ k) := by decide +kernel
theorem nI_mask : ∀ k, k < 7 → ∀ P, P < 256 → nI P &&& -((1 : Int32) <<< (nI k &&& 31)) = nI (P / 2 ^ k * 2 ^ k) := by decide +kernel
theorem nI_xor (a b : Nat) : nI a ^^^ nI b = nI (a ^^^ b) := by
  apply Int32.toBitVec_inj.1
  show BitVec.ofNat 32 a ^^^ BitVec.ofNat 32 b = BitVec.ofNat 32 (a ^^^ b)
  apply BitVec.eq_of_getLsbD_eq
  intro i hi
  simp [hi]
theorem two_le : ∀ k, k < 7 → 2 ^ k ≤ 64 := by decide
theorem xor_lt : ∀ k, k < 7 → ∀ f, f < 256 → f ^^^ 2 ^ k < 256 ∧ f ^^^ 2 ^ k ≠ f := by decide +kernel
abbrev q_T : Type := (Nat → Nat) × (Nat → Nat) × (Nat → Int32)
def q_fst (od : Nat → Nat) (P : Nat) : Nat → Nat → Option Nat
  | 0, _ => none
  | n + 1, k => if od (P / 2 ^ k * 2 ^ k) = k + 1 then some (P / 2 ^ k * 2 ^ k) else q_fst od P n (k + 1)
def j_fo (od : Nat → Nat) (x : Int32) : Option Nat := if 0 ≤ x ∧ x < 256 then q_fst od x.toNatClampNeg 7 0 else none
def j_of (od : Nat → Nat) (x : Int32) : Int32 := if 0 ≤ x ∧ x < 256 then nI (od x.toNatClampNeg) - 1 else -1
def j_uf (od us : Nat → Nat) (x : Int32) : Int32 := if (0 ≤ x ∧ x < 256) ∧ od x.toNatClampNeg ≠ 0 then nI (us x.toNatClampNeg) else -1
def q_lay (q : q_T) (f k : Nat) : q_T := (va_up q.1 f (k + 1), va_up q.2.1 f 0, upd q.2.2 k (q.2.2 k + 1))
def q_join : Nat → q_T → Nat → Nat → q_T
  | 0, q, f, k => q_lay q f k
  | n + 1, q, f, k => if k < 6 ∧ q.1 (f ^^^ 2 ^ k) = k + 1 ∧ q.2.1 (f ^^^ 2 ^ k) = 0 then q_join n (va_up (va_up q.1 f 0) (f ^^^ 2 ^ k) 0, q.2.1, upd q.2.2 k (q.2.2 k - 1)) (min f (f ^^^ 2 ^ k)) (k + 1) else q_lay q f k
def q_lo (fc : Nat → Int32) : Nat → Nat → Nat
  | 0, k => k
  | n + 1, k => if fc k = 0 then q_lo fc n (k + 1) else k
def q_lp (od us : Nat → Nat) (o : Nat) : Nat → Nat → Option Nat
  | 0, _ => none
  | n + 1, p => if od p = o + 1 ∧ us p = 0 then some p else q_lp od us o n (p + 1)
def q_hv (P k : Nat) : Nat → q_T → q_T
  | 0, q => q
  | n + 1, q => q_hv P k n (q_lay q (P + 2 ^ (k + n)) (k + n))
def q_oB (base : Nat) (sc : Nat → Int32) : va_E := .inr (0, [.ref (base + 4), .ref (base + 5), .ref (base + 6), .ref (base + 7), .int (sc 0), .int (sc 1), .int (sc 2), .int (sc 3), .int (sc 4), .int (sc 5), .int (sc 6), .int (sc 7)])
def hpB (G : z_G) (base : Nat) (xs : Nat → va_E) (sc td : Nat → Int32) (q : q_T) (tl : List va_E) : List va_E :=
  xs 0 :: xs 1 :: xs 2 :: q_oB base sc :: .inl (G.2 2, 256, .inl td) :: .inl (G.2 0, 256, .inl (fun p => nI (q.1 p))) :: .inl (G.2 0, 256, .inl (fun p => nI (q.2.1 p))) :: .inl (G.2 0, 7, .inl q.2.2) :: tl
theorem q_fst_hit {od : Nat → Nat} {P k : Nat} (hk : k < 7) (h : od (P / 2 ^ k * 2 ^ k) = k + 1) : q_fst od P (7 - k) k = some (P / 2 ^ k * 2 ^ k) := by
  rw [show 7 - k = (6 - k) + 1 by omega]
  exact if_pos h
theorem q_fst_miss {od : Nat → Nat} {P k : Nat} (hk : k < 7) (h : ¬ od (P / 2 ^ k * 2 ^ k) = k + 1) : q_fst od P (7 - k) k = q_fst od P (7 - (k + 1)) (k + 1) := by
  rw [show 7 - k = (7 - (k + 1)) + 1 by omega]
  exact if_neg h
theorem q_lp_hit {od us : Nat → Nat} {o p : Nat} (hk : p < 256) (h : od p = o + 1 ∧ us p = 0) : q_lp od us o (256 - p) p = some p := by
  rw [show 256 - p = (255 - p) + 1 by omega]
  exact if_pos h
theorem q_lp_miss {od us : Nat → Nat} {o p : Nat} (hk : p < 256) (h : ¬ (od p = o + 1 ∧ us p = 0)) : q_lp od us o (256 - p) p = q_lp od us o (256 - (p + 1)) (p + 1) := by
  rw [show 256 - p = (256 - (p + 1)) + 1 by omega]
  exact if_neg h
theorem q_lo_miss {fc : Nat → Int32} {k : Nat} (hk : k < 6) (h : fc k = 0) : q_lo fc (6 - k) k = q_lo fc (6 - (k + 1)) (k + 1) := by
  rw [show 6 - k = (6 - (k + 1)) + 1 by omega]
  exact if_pos h
theorem q_lo_hit {fc : Nat → Int32} {k : Nat} (hk : k ≤ 6) (h : k < 6 → ¬ fc k = 0) : q_lo fc (6 - k) k = k := by
  by_cases hk6 : k < 6
  · rw [show 6 - k = (5 - k) + 1 by omega]
    exact if_neg (h hk6)
  · rw [show 6 - k = 0 by omega]
    rfl
theorem q_lo_le {fc : Nat → Int32} : ∀ (n k : Nat), q_lo fc n k ≤ n + k := by
  intro n
  induction n with
  | zero => intro k; exact Nat.le_of_eq (Nat.zero_add k).symm
  | succ n ih =>
    intro k
    unfold q_lo
    split
    · have := ih (k + 1)
      omega
    · omega
theorem q_lo_ge {fc : Nat → Int32} : ∀ (n k : Nat), k ≤ q_lo fc n k := by
  intro n
  induction n with
  | zero => intro k; exact Nat.le_refl k
  | succ n ih =>
    intro k
    unfold q_lo
    split
    · have := ih (k + 1)
      omega
    · exact Nat.le_refl k
theorem q_lp_lt {od us : Nat → Nat} {o : Nat} : ∀ (n p r : Nat), q_lp od us o n p = some r → p ≤ r ∧ r < p + n ∧ od r = o + 1 ∧ us r = 0 := by
  intro n
  induction n with
  | zero => intro p r h; cases h
  | succ n ih =>
    intro p r h
    unfold q_lp at h
    split at h
    · rename_i hc
      cases h
      exact ⟨Nat.le_refl _, by omega, hc.1, hc.2⟩
    · have := ih (p + 1) r h
      exact ⟨by omega, by omega, this.2.2⟩
theorem nI_ne {a b : Nat} (ha : a < 2 ^ 31) (hb : b < 2 ^ 31) (h : ¬ nI a = nI b) : a ≠ b := fun q => h (by rw [q])
theorem hv_cond : ∀ k, k < 7 → ∀ r, r < 7 → (nI (k + r) - 1 < nI k ↔ r = 0) := by decide +kernel
theorem add_m1 (x : Int32) : x + Int32.ofInt (-1) = x - 1 := by rw [Int32.sub_eq_add_neg]; rfl
theorem nI_m1 {n : Nat} (h : n < 2 ^ 31) : ¬ nI n = -1 := fun q => by
  have h1 : (nI n).toInt = (-1 : Int32).toInt := by rw [q]
  rw [nI_toInt h] at h1
  have h2 : (-1 : Int32).toInt = -1 := by decide
  omega
theorem min_nI {a b : Nat} (ha : a < 2 ^ 31) (hb : b < 2 ^ 31) : (if nI b < nI a then nI b else nI a) = nI (min a b) := by
  by_cases h : b < a
  · rw [if_pos ((nI_ltI hb ha).mpr h), Nat.min_eq_right (by omega)]
  · rw [if_neg (fun q => h ((nI_ltI hb ha).mp q)), Nat.min_eq_left (by omega)]
theorem q_join_end {q : q_T} {f j : Nat} (h : ¬ (j < 6 ∧ q.1 (f ^^^ 2 ^ j) = j + 1 ∧ q.2.1 (f ^^^ 2 ^ j) = 0)) : q_join (6 - j) q f j = q_lay q f j := by
  by_cases hj : j < 6
  · rw [show 6 - j = (5 - j) + 1 by omega]
    exact if_neg h
  · rw [show 6 - j = 0 by omega]
    rfl
theorem q_join_go {q : q_T} {f j : Nat} (hj : j < 6) (h : q.1 (f ^^^ 2 ^ j) = j + 1 ∧ q.2.1 (f ^^^ 2 ^ j) = 0) : q_join (6 - j) q f j = q_join (6 - (j + 1)) (va_up (va_up q.1 f 0) (f ^^^ 2 ^ j) 0, q.2.1, upd q.2.2 j (q.2.2 j - 1)) (min f (f ^^^ 2 ^ j)) (j + 1) := by
  rw [show 6 - j = (6 - (j + 1)) + 1 by omega]
  exact if_pos ⟨hj, h⟩
def q_halve (q : q_T) (P k : Nat) : q_T := match q_hv P k (q.1 P - 1 - k) (q.1, q.2.1, upd q.2.2 (q.1 P - 1) (q.2.2 (q.1 P - 1) - 1)) with
  | r => (va_up r.1 P (k + 1), r.2)
def q_take (q : q_T) (k : Nat) : Option Nat := q_lp q.1 q.2.1 (q_lo q.2.2 (6 - k) k) 256 0
def q_got (q : q_T) (P k u : Nat) : q_T := ((q_halve q P k).1, va_up (q_halve q P k).2.1 P u, (q_halve q P k).2.2)
def s_arm (sc : Nat → Int32) : Nat → Int32 := if sc 7 = -1 then sc else upd sc 7 (sc 7 - 1)
def s_got (sc : Nat → Int32) (k : Nat) : Nat → Int32 := upd (upd (upd sc 5 (sc 5 + 1)) 2 (sc 2 - nI (2 ^ k))) 3 (if sc 3 < sc 1 - (sc 2 - nI (2 ^ k)) then sc 1 - (sc 2 - nI (2 ^ k)) else sc 3)
def s_miss (sc : Nat → Int32) : Nat → Int32 := upd sc 4 (sc 4 + 1)
def j_take (sc : Nat → Int32) (q : q_T) (k : Nat) : Option Nat := if sc 7 = 0 then none else q_take q k
def j_scl (sc : Nat → Int32) (q : q_T) (k : Nat) : Nat → Int32 := match j_take sc q k with
  | none => s_miss (s_arm sc)
  | some _ => s_got (s_arm sc) k
def j_qcl (sc : Nat → Int32) (q : q_T) (k u : Nat) : q_T := match j_take sc q k with
  | none => q
  | some P => q_got q P k u
def q_tell : Nat → Nat → (Nat → Int32) × Int32 → (Nat → Int32) × Int32
  | 0, _, t => t
  | n + 1, p, t => q_tell n (p + 1) (if t.1 p = 0 then (upd t.1 p 1, t.2 + 1) else t)
def q_open (td : Nat → Int32) : Nat → Nat → q_T → q_T
  | 0, _, q => q
  | n + 1, p, q => q_open td n (p + 1) (if td p = 0 then q else q_join 6 q p 0)
theorem q_join_ok : ∀ (n : Nat) (q : q_T) (f k : Nat), n + k ≤ 6 → (∀ p, q.1 p ≤ 7) → (∀ p, q.2.1 p ≤ 13) → (∀ p, (q_join n q f k).1 p ≤ 7) ∧ (∀ p, (q_join n q f k).2.1 p ≤ 13) := by
  have lay : ∀ (q : q_T) (f k : Nat), k ≤ 6 → (∀ p, q.1 p ≤ 7) → (∀ p, q.2.1 p ≤ 13) → (∀ p, (q_lay q f k).1 p ≤ 7) ∧ (∀ p, (q_lay q f k).2.1 p ≤ 13) := by
    intro q f k hk h1 h2
    refine ⟨fun p => ?_, fun p => ?_⟩
    · show va_up q.1 f (k + 1) p ≤ 7
      unfold va_up
      split
      · omega
      · exact h1 p
    · show va_up q.2.1 f 0 p ≤ 13
      unfold va_up
      split
      · omega
      · exact h2 p
  intro n
  induction n with
  | zero => intro q f k hk h1 h2; exact lay q f k (by omega) h1 h2
  | succ n ih =>
    intro q f k hk h1 h2
    unfold q_join
    split
    · refine ih _ _ _ (by omega) (fun p => ?_) h2
      show va_up (va_up q.1 f 0) (f ^^^ 2 ^ k) 0 p ≤ 7
      unfold va_up
      split
      · omega
      · split
        · omega
        · exact h1 p
    · exact lay q f k (by omega) h1 h2
