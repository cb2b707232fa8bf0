theorem opt_cases (o : Option Nat) : o = none ∨ ∃ P, o = some P := by
  cases o with
  | none => exact Or.inl rfl
  | some P => exact Or.inr ⟨P, rfl⟩
theorem r_mk_na {r : r_T} {P k : Nat} {b : Int32} {i : Nat} (h1 : i ≠ 1) (h2 : i ≠ 2) : (r_mk r P k b).2.1 i = r.2.1 i := by
  show va_up (va_up r.2.1 1 _) 2 _ i = _
  unfold va_up
  rw [if_neg h2, if_neg h1]
theorem r_mk_ia {r : r_T} {P k : Nat} {b : Int32} {i : Nat} (h1 : i ≠ 1) (h2 : i ≠ 2) : (r_mk r P k b).2.2 i = r.2.2 i := by
  show va_up (va_up r.2.2 1 _) 2 _ i = _
  unfold va_up
  rw [if_neg h2, if_neg h1]
theorem r_split_na {P k i : Nat} (h1 : i ≠ 1) (h2 : i ≠ 2) : ∀ (n : Nat) (r : r_T), (r_split P k n r).2.1 i = r.2.1 i ∧ (r_split P k n r).2.2 i = r.2.2 i := by
  intro n
  induction n with
  | zero => intro r; exact ⟨rfl, rfl⟩
  | succ n ih =>
    intro r
    unfold r_split
    exact ⟨(ih _).1.trans (r_mk_na h1 h2), (ih _).2.trans (r_mk_ia h1 h2)⟩
theorem r_got_na {r : r_T} {P k i : Nat} (h1 : i ≠ 1) (h2 : i ≠ 2) : (r_got r P k).2.1 i = r.2.1 i ∧ (r_got r P k).2.2 i = r.2.2 i :=
  ⟨(r_mk_na h1 h2).trans (r_split_na h1 h2 _ r).1, (r_mk_ia h1 h2).trans (r_split_na h1 h2 _ r).2⟩
theorem r_tks_na {r : r_T} {k i : Nat} (h1 : i ≠ 1) (h2 : i ≠ 2) : (r_tks r k).2.1 i = r.2.1 i ∧ (r_tks r k).2.2 i = r.2.2 i := by
  unfold r_tks
  split
  · exact ⟨rfl, rfl⟩
  · exact r_got_na (r := (upd r.1 2 (r_arm (r.1 2)), r.2)) h1 h2
theorem r_join_na {i : Nat} (h1 : i ≠ 1) (h2 : i ≠ 2) : ∀ (n : Nat) (r : r_T) (f k : Nat), (r_join n r f k).2.1 i = r.2.1 i ∧ (r_join n r f k).2.2 i = r.2.2 i := by
  intro n
  induction n with
  | zero => intro r f k; exact ⟨rfl, rfl⟩
  | succ n ih =>
    intro r f k
    unfold r_join
    split
    · exact ⟨(ih _ _ _).1.trans (r_mk_na h1 h2), (ih _ _ _).2.trans (r_mk_ia h1 h2)⟩
    · exact ⟨rfl, rfl⟩
theorem r_gvs_na {r : r_T} {P i : Nat} (h1 : i ≠ 1) (h2 : i ≠ 2) : (r_gvs r P).2.1 i = r.2.1 i ∧ (r_gvs r P).2.2 i = r.2.2 i :=
  ⟨(r_join_na h1 h2 _ _ _ _).1.trans (r_mk_na h1 h2), (r_join_na h1 h2 _ _ _ _).2.trans (r_mk_ia h1 h2)⟩
def k_str (b a : Nat) : Nat := (b + a - 1) / a * a
def r_ac (r : r_T) (nc b a : Nat) : r_T := (upd r.1 1 (nI (nc + 1)), va_up (va_up (va_up (va_up r.2.1 5 (va_up (r.2.1 5) nc b)) 6 (va_up (r.2.1 6) nc a)) 7 (va_up (r.2.1 7) nc (k_str b a))) 8 (va_up (r.2.1 8) nc (q_so (k_str b a) 4 0)), va_up r.2.2 3 (upd (r.2.2 3) nc (-1)))
theorem k_str_pos {b a : Nat} (hb : 1 ≤ b) (ha : 1 ≤ a) : 1 ≤ k_str b a := by
  unfold k_str
  have h : 1 ≤ (b + a - 1) / a := (Nat.one_le_div_iff (by omega)).mpr (by omega)
  exact Nat.mul_pos h ha
theorem k_str_le {b a : Nat} : k_str b a ≤ b + a - 1 := Nat.div_mul_le_self _ _
def r_chB (r : r_T) (x y : Int32) : Bool := decide (¬ r.1 0 = 0 ∧ (1 ≤ x ∧ x ≤ 1024) ∧ (1 ≤ y ∧ y ≤ 64) ∧ y &&& (y - 1) = 0 ∧ r.1 1 < 12)
def r_chS (r : r_T) (x y : Int32) : r_T := if r_chB r x y = true then r_ac r (r.1 1).toNatClampNeg x.toNatClampNeg y.toNatClampNeg else r
def r_chA (r : r_T) (x y : Int32) : Int32 := if r_chB r x y = true then r.1 1 else -1
theorem in1_of {x : Int32} {M : Nat} (hM : M < 65536) (h : 1 ≤ x ∧ x ≤ nI M) : ∃ k : Nat, 1 ≤ k ∧ k ≤ M ∧ x = nI k := by
  obtain ⟨k, hk, rfl⟩ := in_of hM ⟨Int32.le_trans (by decide) h.1, h.2⟩
  exact ⟨k, (nI_leI (a := 1) (by decide) (by omega)).mp h.1, hk, rfl⟩
theorem r_tk_some {r : r_T} {k P : Nat} (h : r_tk r k = some P) : P < 256 ∧ r_free r P = true ∧ k ≤ r.2.1 2 P := by
  unfold r_tk at h
  split at h
  · cases h
  · have := r_best_some _ _ _ h
    exact ⟨this.1, this.2.1, this.2.2.1⟩
theorem r_tk_lt {r : r_T} {k P : Nat} (h : r_tk r k = some P) : P < 256 := (r_tk_some h).1
theorem nI_gt0 {n : Nat} (h : n < 2 ^ 31) (h2 : ¬ nI n ≤ 0) : 0 < n := by
  rcases Nat.eq_zero_or_pos n with z | z
  · rw [z] at h2; exact absurd (by decide) h2
  · exact z
theorem r_part_some {r : r_T} {c P : Nat} (h : r_part r c = some P) : P < 256 ∧ r_slab r P c = true ∧ 0 < r.2.1 4 P ∧ 0 < r_ob r c - r.2.1 4 P := by
  rcases r_low_some 256 none _ h with h1 | h1
  · exact ⟨h1.1, of_decide_eq_true h1.2⟩
  · cases h1
theorem r_toP_n {r : r_T} {c : Nat} (h : r_part r c = none) (h2 : ¬ 0 ≤ r.2.2 3 c) : r_toP r c = r_tk r (r.2.1 8 c) := by
  unfold r_toP
  rw [h]
  exact if_neg h2
theorem r_nsS_4 {r : r_T} {c P : Nat} (h : r_tk r (r.2.1 8 c) = some P) : (r_nsS r c).2.1 4 P = r_ob r c := by
  unfold r_nsS
  rw [h]
  show va_up _ P (r_ob r c) P = _
  rw [va_up_self]
theorem r_nsS_7 (r : r_T) (c : Nat) : (r_nsS r c).2.1 7 = r.2.1 7 := by
  unfold r_nsS
  split
  · exact (r_tks_na (by decide) (by decide)).1
  · exact (r_tks_na (r := r) (k := r.2.1 8 c) (i := 7) (by decide) (by decide)).1
