theorem z_self {hp : List va_E} {i : Nat} {e e' : va_E} (h : hp[i]? = some e) : (hp.set i e')[i]? = some e' := by
  rw [List.getElem?_set_self (List.getElem?_eq_some_iff.mp h).1]
theorem z_oth {hp : List va_E} {i k : Nat} {e x : va_E} (h : i ≠ k) (he : hp[k]? = some e) : (hp.set i x)[k]? = some e := by
  rw [List.getElem?_set_ne h]; exact he
def q_oC (cf : Nat → Int32) : va_E := .inr (1, [.int (cf 0), .int (cf 1), .int (cf 2), .int (cf 3), .int (cf 4), .int (cf 5), .int (cf 6), .int (cf 7), .int (cf 8)])
def q_so (t : Nat) : Nat → Nat → Nat
  | 0, k => k
  | n + 1, k => if 64 * 2 ^ k / t < 4 then q_so t n (k + 1) else k
def j_ix (off t ob : Nat) : Option Nat := if off % t = 0 ∧ off / t < ob then some (off / t) else none
def j_fig (cf : Nat → Int32) (x : Int32) : Int32 := if x.toInt < 0 ∨ 7 < x.toInt then -1 else cf (x.toNatClampNeg + 1)
theorem nI_64 : ∀ k, k < 7 → (64 : Int32) <<< (nI k &&& 31) = nI (64 * 2 ^ k) := by decide +kernel
theorem q_so_go {t k : Nat} (hk : k < 4) (h : 64 * 2 ^ k / t < 4) : q_so t (4 - k) k = q_so t (4 - (k + 1)) (k + 1) := by
  rw [show 4 - k = (4 - (k + 1)) + 1 by omega]
  exact if_pos h
theorem q_so_end {t k : Nat} (h : ¬ (k < 4 ∧ 64 * 2 ^ k / t < 4)) : q_so t (4 - k) k = k := by
  by_cases hk : k < 4
  · rw [show 4 - k = (3 - k) + 1 by omega]
    exact if_neg (fun z => h ⟨hk, z⟩)
  · rw [show 4 - k = 0 by omega]
    rfl
theorem q_so_le {t : Nat} : ∀ (n k : Nat), q_so t n k ≤ n + k := by
  intro n
  induction n with
  | zero => intro k; exact Nat.le_of_eq (Nat.zero_add k).symm
  | succ n ih =>
    intro k
    unfold q_so
    split
    · have := ih (k + 1)
      omega
    · omega
theorem tab8 (x : Int32) : (x.toInt < 0 ∨ 7 < x.toInt) ∨ ∃ j : Nat, j < 8 ∧ x = nI j := by
  by_cases h : x.toInt < 0 ∨ 7 < x.toInt
  · exact Or.inl h
  · refine Or.inr ⟨x.toInt.toNat, by omega, Int32.toInt_inj.mp ?_⟩
    rw [nI_toInt (by omega)]
    omega
def lb (w : Int64) (i : Nat) : Bool := w.toBitVec.getLsbD i
theorem sh_amt : ∀ k, k < 64 → ((nI k).toInt64.toUInt64 &&& Int64.toUInt64 63).toBitVec = BitVec.ofNat 64 k := by decide +kernel
theorem sh_amt2 : ∀ k, k < 64 → ((nI k).toInt64 &&& 63).toBitVec.smod 64 = BitVec.ofNat 64 k := by decide +kernel
theorem lb_shr {w : Int64} {k i : Nat} (hk : k < 64) : lb (w.toUInt64 >>> ((nI k).toInt64.toUInt64 &&& Int64.toUInt64 63)).toInt64 i = lb w (k + i) := by
  unfold lb
  have h : (w.toUInt64 >>> ((nI k).toInt64.toUInt64 &&& Int64.toUInt64 63)).toInt64.toBitVec = w.toBitVec >>> k := by
    show (w.toUInt64 >>> _).toBitVec = _
    rw [UInt64.toBitVec_shiftRight, sh_amt k hk]
    apply BitVec.eq_of_toNat_eq
    simp [BitVec.toNat_ushiftRight, Nat.mod_eq_of_lt (show k < 18446744073709551616 by omega), Nat.mod_eq_of_lt hk]
  rw [h, BitVec.getLsbD_ushiftRight]
theorem lb_shl {w : Int64} {k i : Nat} (hk : k < 64) (hi : i < 64) : lb (w <<< ((nI k).toInt64 &&& 63)) i = (decide (k ≤ i) && lb w (i - k)) := by
  unfold lb
  rw [Int64.toBitVec_shiftLeft, sh_amt2 k hk]
  have h : w.toBitVec <<< BitVec.ofNat 64 k = w.toBitVec <<< k := by
    apply BitVec.eq_of_toNat_eq
    simp [BitVec.toNat_shiftLeft, Nat.mod_eq_of_lt (show k < 18446744073709551616 by omega)]
  rw [h, BitVec.getLsbD_shiftLeft]
  by_cases hc : k ≤ i
  · simp [hi, hc, Nat.not_lt.mpr hc]
  · simp [hi, hc, Nat.lt_of_not_le hc]
theorem lb_or (a b : Int64) (i : Nat) : lb (a ||| b) i = (lb a i || lb b i) := by
  unfold lb
  rw [Int64.toBitVec_or, BitVec.getLsbD_or]
theorem lb_and (a b : Int64) (i : Nat) : lb (a &&& b) i = (lb a i && lb b i) := by
  unfold lb
  rw [Int64.toBitVec_and, BitVec.getLsbD_and]
theorem lb_xor (a b : Int64) (i : Nat) : lb (a ^^^ b) i = (lb a i ^^ lb b i) := by
  unfold lb
  rw [Int64.toBitVec_xor, BitVec.getLsbD_xor]
theorem lb_m1 : ∀ i, i < 64 → lb (-1) i = true := by decide +kernel
theorem lb_0 (i : Nat) : lb 0 i = false := by
  show (0 : BitVec 64).getLsbD i = false
  simp
theorem lb_1 : ∀ i, i < 64 → lb 1 i = decide (i = 0) := by decide +kernel
theorem lb_255 : ∀ i, i < 64 → lb 255 i = decide (i < 8) := by decide +kernel
theorem lb_big {w : Int64} {i : Nat} (h : 64 ≤ i) : lb w i = false := by
  unfold lb
  exact BitVec.getLsbD_of_ge _ _ h
theorem lb_ext {a b : Int64} (h : ∀ i, i < 64 → lb a i = lb b i) : a = b := Int64.toBitVec_inj.mp (BitVec.eq_of_getLsbD_eq h)
/-- is the bit set, as the class asks -/
theorem lb_test {w : Int64} {k : Nat} (hk : k < 64) : lg_cmp ((w.toUInt64 >>> ((nI k).toInt64.toUInt64 &&& Int64.toUInt64 63)).toInt64 &&& 1) 0 = 0 ↔ lb w k = false := by
  have h1 : lg_cmp ((w.toUInt64 >>> ((nI k).toInt64.toUInt64 &&& Int64.toUInt64 63)).toInt64 &&& 1) 0 = 0 ↔ ((w.toUInt64 >>> ((nI k).toInt64.toUInt64 &&& Int64.toUInt64 63)).toInt64 &&& 1) = 0 := lg_cmp_eq _ _
  rw [h1]
  constructor
  · intro h
    have h2 := congrArg (fun z => lb z 0) h
    simp only [lb_and, lb_shr hk, lb_1 0 (by decide), lb_0] at h2
    simpa using h2
  · intro h
    refine lb_ext (fun i hi => ?_)
    rw [lb_and, lb_shr hk, lb_1 i hi, lb_0]
    by_cases h0 : i = 0
    · subst h0
      simp [h]
    · simp [h0]
theorem lb_set {w : Int64} {k i : Nat} (hk : k < 64) (hi : i < 64) : lb (w ||| ((1 : Int64) <<< ((nI k).toInt64 &&& 63))) i = (lb w i || decide (i = k)) := by
  rw [lb_or, lb_shl hk hi]
  by_cases h : k ≤ i
  · rw [lb_1 _ (by omega)]
    congr 1
    by_cases h2 : i = k
    · subst h2; simp
    · simp [h, h2]; omega
  · have h2 : ¬ i = k := by omega
    simp [h, h2]
theorem lb_clr {w : Int64} {k i : Nat} (hk : k < 64) (hi : i < 64) : lb (w &&& (((1 : Int64) <<< ((nI k).toInt64 &&& 63)) ^^^ (-1))) i = (lb w i && !decide (i = k)) := by
  rw [lb_and, lb_xor, lb_shl hk hi, lb_m1 i hi]
  by_cases h : k ≤ i
  · rw [lb_1 _ (by omega)]
    congr 1
    by_cases h2 : i = k
    · subst h2; simp
    · simp [h, h2]; omega
  · have h2 : ¬ i = k := by omega
    simp [h, h2]
