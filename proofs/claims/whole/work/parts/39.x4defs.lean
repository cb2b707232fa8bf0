def c_co (base nc : Nat) (pl : Nat → Nat) (x : Int32) : Option Nat := if 0 ≤ x ∧ x < nI nc then some (base + pl x.toNatClampNeg) else none
theorem c_co_cases {base nc : Nat} {pl : Nat → Nat} (hnc : nc ≤ 12) (x : Int32) : (c_co base nc pl x = none ∧ ¬ (0 ≤ x ∧ x < nI nc)) ∨ ∃ c, c < nc ∧ x = nI c ∧ c_co base nc pl x = some (base + pl c) := by
  by_cases h : 0 ≤ x ∧ x < nI nc
  · obtain ⟨c, hc, rfl⟩ := nI_of (x := x) (Int32.not_lt.mpr h.1)
    refine Or.inr ⟨c, (nI_ltI hc (by omega)).mp h.2, rfl, ?_⟩
    unfold c_co
    rw [if_pos h, nI_clamp hc]
  · exact Or.inl ⟨if_neg h, h⟩
theorem c_co_at {base nc c : Nat} {pl : Nat → Nat} (hnc : nc ≤ 12) (hc : c < nc) : c_co base nc pl (nI c) = some (base + pl c) := by
  unfold c_co
  rw [if_pos ⟨nI_pos' (by omega), nI_lt hc (by omega)⟩, nI_clamp (by omega)]
def c_sa (base : Nat) (S : Nat → Option s_T) (x : Int32) : Option Nat := if 0 ≤ x ∧ x < 256 then c_sl base S x.toNatClampNeg else none
theorem c_sa_at {base P : Nat} {S : Nat → Option s_T} (h : P < 256) : c_sa base S (nI P) = c_sl base S P := by
  unfold c_sa
  rw [if_pos (pg_in h), cl_nI h]
def c_lv (cf : Nat → Nat → Int32) (nc : Nat) : Nat → Int32
  | 0 => 0
  | n + 1 => c_lv cf nc n + (if n < nc then cf n 7 else 0)
def j_wp (od us : Nat → Nat) (x : Int32) : Int32 := if j_uf od us x = 0 then -3 else if j_uf od us x = 1 then 0 else -2
def q_find (g : Nat → Bool) : Nat → Nat → Option Nat
  | 0, _ => none
  | n + 1, p => if g p then some p else q_find g n (p + 1)
theorem q_find_hit {g : Nat → Bool} {p : Nat} (hp : p < 256) (h : g p = true) : q_find g (256 - p) p = some p := by
  rw [show 256 - p = (255 - p) + 1 by omega]
  exact if_pos h
theorem q_find_miss {g : Nat → Bool} {p : Nat} (hp : p < 256) (h : g p = false) : q_find g (256 - p) p = q_find g (256 - (p + 1)) (p + 1) := by
  rw [show 256 - p = (256 - (p + 1)) + 1 by omega]
  exact if_neg (by rw [h]; exact Bool.false_ne_true)
theorem q_find_some {g : Nat → Bool} : ∀ (n p r : Nat), q_find g n p = some r → p ≤ r ∧ r < p + n ∧ g r = true := by
  intro n
  induction n with
  | zero => intro p r h; cases h
  | succ n ih =>
    intro p r h
    unfold q_find at h
    split at h
    · cases h
      rename_i hg
      exact ⟨Nat.le_refl _, by omega, hg⟩
    · have := ih (p + 1) r h
      exact ⟨by omega, by omega, this.2.2⟩
def c_pg (q : q_T) (S : Nat → Option s_T) (c : Nat) (p : Nat) : Bool := match S p with
  | none => false
  | some s => decide (j_uf q.1 q.2.1 (nI p) = nI (2 + c) ∧ 0 < s.2.2.1 ∧ s.2.2.1 < s.2.2.2.1)
def c_part (q : q_T) (S : Nat → Option s_T) (c : Nat) : Option Nat := q_find (c_pg q S c) 256 0
theorem opts_cases (o : Option s_T) : o = none ∨ ∃ j r n ob f w, o = some (j, r, n, ob, f, w) := by
  cases o with
  | none => exact Or.inl rfl
  | some s => exact Or.inr ⟨_, _, _, _, _, _, rfl⟩
def c_kf (cf : Nat → Nat → Int32) (nc : Nat) (st so ob : Nat → Nat) : Prop := ∀ c, c < nc → cf c 0 = nI (2 + c) ∧ cf c 3 = nI (st c) ∧ cf c 4 = nI (so c) ∧ cf c 5 = nI (ob c) ∧ 1 ≤ st c ∧ st c < 65536 ∧ so c ≤ 4 ∧ 1 ≤ ob c ∧ ob c ≤ 64
def c_sf (S : Nat → Option s_T) : Prop := ∀ p j r n ob f w, S p = some (j, r, n, ob, f, w) → n ≤ ob ∧ ob ≤ 64 ∧ ∀ i, i < n → f i < 64
def k_kf (b : Nat) : Nat → Nat → Nat
  | 0, j => j
  | n + 1, j => if k_bytes j < b then k_kf b n (j + 1) else j
theorem k_kf_go {b j : Nat} (hj : j < 12) (h : k_bytes j < b) : k_kf b (12 - j) j = k_kf b (12 - (j + 1)) (j + 1) := by
  rw [show 12 - j = (12 - (j + 1)) + 1 by omega]
  exact if_pos h
theorem k_kf_end {b j : Nat} (h : ¬ (j < 12 ∧ k_bytes j < b)) : k_kf b (12 - j) j = j := by
  by_cases hj : j < 12
  · rw [show 12 - j = (11 - j) + 1 by omega]
    exact if_neg (fun q => h ⟨hj, q⟩)
  · rw [show 12 - j = 0 by omega]
    rfl
theorem ad_of {x : Int32} (h : 0 ≤ x ∧ x < 16384) : ∃ a : Nat, a < 16384 ∧ x = nI a := by
  obtain ⟨j, hj, rfl⟩ := nI_of (x := x) (Int32.not_lt.mpr h.1)
  exact ⟨j, (nI_ltI hj (by decide)).mp (show nI j < nI 16384 from h.2), rfl⟩
def c_opA (od us : Nat → Nat) (x : Int32) : Int32 := if 0 ≤ x ∧ x < 256 then (match j_fo od x with
  | none => -1
  | some f => j_uf od us (nI f)) else -2
theorem j_fo_lt {od : Nat → Nat} {x : Int32} {f : Nat} (h : j_fo od x = some f) : f < 256 := by
  unfold j_fo at h
  split at h
  · rename_i hx
    obtain ⟨P, hP, rfl⟩ := pg_of hx
    rw [cl_nI hP] at h
    have : ∀ (n k : Nat), q_fst od P n k = some f → f ≤ P := by
      intro n
      induction n with
      | zero => intro k h; cases h
      | succ n ih =>
        intro k h
        unfold q_fst at h
        split at h
        · cases h; exact Nat.div_mul_le_self _ _
        · exact ih _ h
    have := this _ _ h
    omega
  · cases h
def c_cts (sc : Nat → Int32) (lv : Int32) (nc : Nat) : Nat → Int32 := fun w => match w with
  | 0 => sc 1
  | 1 => sc 2
  | 2 => sc 4
  | 3 => sc 5
  | 4 => sc 6
  | 5 => lv
  | 6 => nI nc
  | 7 => sc 3
  | _ => sc 7
def c_cnA (sc : Nat → Int32) (lv : Int32) (nc : Nat) (x : Int32) : Int32 := if x.toInt < 0 ∨ 8 < x.toInt then -1 else c_cts sc lv nc x.toNatClampNeg
