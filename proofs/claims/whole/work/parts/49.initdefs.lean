/-! the beginning -/
def s_0 : Nat → Int32 := fun i => if i = 7 then -1 else 0
def q_0 : q_T := (fun _ => 0, fun _ => 0, fun _ => 0)
def pl_0 : Nat → Nat := fun c => 10 + c
def k_b (c : Nat) : Nat := 8 * 2 ^ c
def k_a (c : Nat) : Nat := min (8 * 2 ^ c) 64
theorem ca_0 {base : Nat} : (fun _ => none : Nat → Option Nat) = c_ca base 0 pl_0 := by
  funext c
  unfold c_ca
  rw [if_neg (by omega)]
theorem ca_s {base k : Nat} : va_up (c_ca base k pl_0) k (some (base + (10 + k))) = c_ca base (k + 1) pl_0 := by
  funext c
  unfold c_ca va_up
  by_cases h : c = k
  · rw [if_pos h, if_pos (by omega), h]; rfl
  · rw [if_neg h]
    dsimp only
    by_cases h2 : c < k
    · rw [if_pos h2, if_pos (by omega)]
    · rw [if_neg h2, if_neg (by omega)]
def hp_c (G : z_G) (base : Nat) : List va_E := [q_oP base 6, q_oM base, q_aL G 2048 (fun _ => 0), q_oB base s_0, q_aZ G 256 (fun _ => 0), q_aI G 256 (fun _ => 0), q_aI G 256 (fun _ => 0), q_aJ G 7 (fun _ => 0), q_aR G 3 256 (fun _ => none), q_aR G 4 12 (c_ca base 6 pl_0), q_oC (k_cf 0 8 8), q_oC (k_cf 1 16 16), q_oC (k_cf 2 32 32), q_oC (k_cf 3 64 64), q_oC (k_cf 4 128 64), q_oC (k_cf 5 256 64)]
theorem l_set1 {hp : List va_E} {a c : va_E} : (hp ++ [a]).set hp.length c = hp ++ [c] := by
  rw [List.set_append_right _ _ (Nat.le_refl _), Nat.sub_self]; rfl
def r_00 : r_T := (fun i => if i = 2 then -1 else 0, fun _ _ => 0, fun _ _ => 0)
def r_ini : Nat → r_T
  | 0 => r_00
  | k + 1 => r_ac (r_ini k) k (8 * 2 ^ k) (min (8 * 2 ^ k) 64)
theorem r_ini_1 : ∀ k, (r_ini k).1 1 = nI k := by
  intro k
  cases k with
  | zero => rfl
  | succ k => rfl
