theorem va_up_comm {α : Type} (f : Nat → α) {a b : Nat} (x y : α) (h : a ≠ b) : va_up (va_up f a x) b y = va_up (va_up f b y) a x := by
  funext j
  unfold va_up
  by_cases h1 : j = b
  · rw [if_pos h1, if_neg (by omega), if_pos h1]
  · rw [if_neg h1]
    by_cases h2 : j = a
    · rw [if_pos h2, if_pos h2]
    · rw [if_neg h2, if_neg h2, if_neg h1]
theorem upd_upd (f : Nat → Int32) (k : Nat) (a b : Int32) : upd (upd f k a) k b = upd f k b := by
  funext j
  unfold upd
  split <;> rfl
theorem PB.fo {od us : Nat → Nat} {td : Nat → Int32} {fo oo : Nat → Nat} {tk co : Nat → Int32} (h : PB od us td fo oo tk co) {x : Nat} (hx : x < 256) : j_fo od (nI x) = if td x = 0 then none else some (fo x) := by
  unfold j_fo
  rw [if_pos (pg_in hx), cl_nI hx]
  have key : ∀ n k, n + k = 7 → (td x = 0 → q_fst od x n k = none) ∧ (¬ td x = 0 → k ≤ od (fo x) - 1 → q_fst od x n k = some (fo x)) := by
    intro n
    induction n with
    | zero =>
      intro k hk
      refine ⟨fun _ => rfl, fun ht h1 => ?_⟩
      have h2 := h.2 x hx ht
      have := (h.1 _ h2.1 h2.2.1).1
      omega
    | succ n ih =>
      intro k hk
      have hg : x / 2 ^ k * 2 ^ k = bk k x := rfl
      unfold q_fst
      rw [hg]
      have hgl := bk_le k x
      by_cases e : od (bk k x) = k + 1
      · rw [if_pos e]
        have h2 := (h.1 (bk k x) (by omega) (by omega)).2.2.1 x hx (by rw [e]; rfl)
        exact ⟨fun ht => absurd ht h2.1, fun _ _ => by rw [h2.2]⟩
      · rw [if_neg e]
        refine ⟨(ih (k + 1) (by omega)).1, fun ht h1 => (ih (k + 1) (by omega)).2 ht ?_⟩
        have h2 := h.2 x hx ht
        by_cases e2 : k = od (fo x) - 1
        · exfalso
          apply e
          rw [e2, h2.2.2]
          have := h2.2.1
          omega
        · omega
  by_cases ht : td x = 0
  · rw [if_pos ht]
    exact (key 7 0 rfl).1 ht
  · rw [if_neg ht]
    exact (key 7 0 rfl).2 ht (Nat.zero_le _)
theorem PB.fi {od us : Nat → Nat} {r : r_T} {co : Nat → Int32} (h : PB od us (r.2.2 0) (r.2.1 1) (r.2.1 2) (r.2.2 1) co) (hs : ¬ r.1 0 = 0) {p : Nat} (hp : p < 256) : r_first r p = true ↔ od p ≠ 0 := by
  unfold r_first
  rw [decide_eq_true_iff]
  constructor
  · rintro ⟨-, h1, h2⟩
    have h3 := (h.2 p hp h1).2.1
    rw [h2] at h3
    exact h3
  · intro ho
    have h3 := (h.1 p hp ho).2.2.1 p hp (h.1 p hp ho).2.1
    exact ⟨hs, h3⟩
theorem PB.fr {od us : Nat → Nat} {r : r_T} {co : Nat → Int32} (h : PB od us (r.2.2 0) (r.2.1 1) (r.2.1 2) (r.2.2 1) co) (hs : ¬ r.1 0 = 0) {p : Nat} (hp : p < 256) : r_free r p = true ↔ od p ≠ 0 ∧ us p = 0 := by
  unfold r_free
  rw [decide_eq_true_iff, h.fi hs hp]
  constructor
  · rintro ⟨h1, h2⟩
    refine ⟨h1, ?_⟩
    rw [(h.1 p hp h1).2.2.2.2.1] at h2
    split at h2
    · assumption
    · exact absurd h2 (by decide)
  · rintro ⟨h1, h2⟩
    refine ⟨h1, ?_⟩
    rw [(h.1 p hp h1).2.2.2.2.1, if_pos h2]
theorem PB.sl {od us : Nat → Nat} {r : r_T} (h : PB od us (r.2.2 0) (r.2.1 1) (r.2.1 2) (r.2.2 1) (r.2.2 2)) (hs : ¬ r.1 0 = 0) {p c : Nat} (hp : p < 256) (hu : us p ≤ 13) (hc : c < 2 ^ 31) : r_slab r p c = true ↔ od p ≠ 0 ∧ us p = 2 + c := by
  unfold r_slab
  rw [decide_eq_true_iff, h.fi hs hp]
  constructor
  · rintro ⟨h1, h2, h3⟩
    refine ⟨h1, ?_⟩
    rw [(h.1 p hp h1).2.2.2.2.2] at h3
    split at h3
    · exact absurd h3.symm (nI_m1 hc)
    · have := (nI_eq (by omega) hc).mp h3
      omega
  · rintro ⟨h1, h2⟩
    refine ⟨h1, ?_, ?_⟩
    · rw [(h.1 p hp h1).2.2.2.2.1, if_neg (by omega)]
      decide
    · rw [(h.1 p hp h1).2.2.2.2.2, if_neg (by omega), h2, Nat.add_sub_cancel_left]
theorem PB.irr {od us us' : Nat → Nat} {td : Nat → Int32} {fo oo : Nat → Nat} {tk co : Nat → Int32} (h : PB od us td fo oo tk co) (he : ∀ g, g < 256 → od g ≠ 0 → us g = us' g) : PB od us' td fo oo tk co := by
  refine ⟨fun g hg ho => ?_, h.2⟩
  have := h.1 g hg ho
  rw [he g hg ho] at this
  exact this
/-! sums -/
theorem r_sum_cg {g g' : Nat → Nat} : ∀ n, (∀ p, p < n → g p = g' p) → r_sum g n = r_sum g' n := by
  intro n
  induction n with
  | zero => intro _; rfl
  | succ n ih =>
    intro h
    show r_sum g n + g n = r_sum g' n + g' n
    rw [ih (fun p hp => h p (by omega)), h n (by omega)]
def sx (g : Nat → Nat) (P : Nat) : Nat → Nat := fun p => if p = P then 0 else g p
theorem sx_self (g : Nat → Nat) (P : Nat) : sx g P P = 0 := if_pos rfl
theorem sx_ne (g : Nat → Nat) {P p : Nat} (h : p ≠ P) : sx g P p = g p := if_neg h
theorem r_sum_sx {g : Nat → Nat} {P : Nat} : ∀ n, P < n → r_sum g n = r_sum (sx g P) n + g P := by
  intro n
  induction n with
  | zero => intro h; omega
  | succ n ih =>
    intro h
    show r_sum g n + g n = r_sum (sx g P) n + sx g P n + g P
    by_cases e : n = P
    · subst e
      rw [sx_self, r_sum_cg n (g := g) (g' := sx g n) (fun p hp => (sx_ne g (by omega)).symm), Nat.add_zero]
    · rw [sx_ne g e, ih (by omega)]
      omega
theorem r_sum_le {g : Nat → Nat} {M : Nat} : ∀ n, (∀ p, p < n → g p ≤ M) → r_sum g n ≤ M * n := by
  intro n
  induction n with
  | zero => intro _; exact Nat.zero_le _
  | succ n ih =>
    intro h
    show r_sum g n + g n ≤ M * (n + 1)
    have h1 := ih (fun p hp => h p (by omega))
    have h2 := h n (by omega)
    rw [Nat.mul_succ]
    omega
theorem r_sum_0 {g : Nat → Nat} : ∀ n, (∀ p, p < n → g p = 0) → r_sum g n = 0 := by
  intro n h
  have := r_sum_le (g := g) (M := 0) n (fun p hp => Nat.le_of_eq (h p hp))
  omega
theorem r_sum_z {g : Nat → Nat} {n P : Nat} (h : r_sum g n = 0) (hP : P < n) : g P = 0 := by
  have := r_sum_sx (g := g) n hP
  omega
def cF (od us : Nat → Nat) (k : Nat) : Nat → Nat := fun p => if od p = k + 1 ∧ us p = 0 then 1 else 0
def gF (od us : Nat → Nat) : Nat → Nat := fun p => if od p ≠ 0 ∧ us p = 0 then 2 ^ (od p - 1) else 0
/-- the counts, but for the block at P -/
def QX (q : q_T) (P T : Nat) : Prop := (∀ j, j < 7 → q.2.2 j = nI (r_sum (sx (cF q.1 q.2.1 j) P) 256)) ∧ r_sum (sx (gF q.1 q.2.1) P) 256 = T
/-- the counts -/
def QC (q : q_T) (T : Nat) : Prop := (∀ j, j < 7 → q.2.2 j = nI (r_sum (cF q.1 q.2.1 j) 256)) ∧ r_sum (gF q.1 q.2.1) 256 = T
def tg (G : Nat → Nat → Nat) (q : q_T) (p : Nat) : Nat := if q.1 p = 0 ∨ q.2.1 p = 0 then 0 else G (q.1 p) (q.2.1 p)
theorem cF_lay {q : q_T} {f k j : Nat} : cF (q_lay q f k).1 (q_lay q f k).2.1 j = va_up (cF q.1 q.2.1 j) f (if k = j then 1 else 0) := by
  funext p
  show (if va_up q.1 f (k + 1) p = j + 1 ∧ va_up q.2.1 f 0 p = 0 then 1 else 0) = _
  by_cases e : p = f
  · rw [e, va_up_self, va_up_self, va_up_self]
    by_cases e2 : k = j
    · rw [if_pos e2, if_pos ⟨by omega, rfl⟩]
    · rw [if_neg e2, if_neg (by omega)]
  · rw [va_up_ne _ _ e, va_up_ne _ _ e, va_up_ne _ _ e]
    rfl
theorem gF_lay {q : q_T} {f k : Nat} : gF (q_lay q f k).1 (q_lay q f k).2.1 = va_up (gF q.1 q.2.1) f (2 ^ k) := by
  funext p
  show (if va_up q.1 f (k + 1) p ≠ 0 ∧ va_up q.2.1 f 0 p = 0 then 2 ^ (va_up q.1 f (k + 1) p - 1) else 0) = _
  by_cases e : p = f
  · rw [e, va_up_self, va_up_self, va_up_self, if_pos ⟨by omega, rfl⟩]
    rfl
  · rw [va_up_ne _ _ e, va_up_ne _ _ e, va_up_ne _ _ e]
    rfl
theorem sum_up {g : Nat → Nat} {f v n : Nat} (h : f < n) : r_sum (va_up g f v) n = r_sum (sx g f) n + v := by
  rw [r_sum_sx n h, va_up_self]
  congr 1
  refine r_sum_cg n (fun p _ => ?_)
  by_cases e : p = f
  · rw [e, sx_self, sx_self]
  · rw [sx_ne _ e, sx_ne _ e, va_up_ne _ _ e]
theorem sx_up {g : Nat → Nat} {P f v : Nat} (h : f ≠ P) : sx (va_up g f v) P = va_up (sx g P) f v := by
  funext p
  by_cases e : p = P
  · rw [e, sx_self, va_up_ne _ _ (Ne.symm h), sx_self]
  · rw [sx_ne _ e]
    by_cases e2 : p = f
    · rw [e2, va_up_self, va_up_self]
    · rw [va_up_ne _ _ e2, va_up_ne _ _ e2, sx_ne _ e]
theorem sx_id {g : Nat → Nat} {P : Nat} (h : g P = 0) : sx g P = g := by
  funext p
  by_cases e : p = P
  · rw [e, sx_self, h]
  · rw [sx_ne _ e]
theorem sx_upid {g : Nat → Nat} {P v : Nat} : sx (va_up g P v) P = sx g P := by
  funext p
  by_cases e : p = P
  · rw [e, sx_self, sx_self]
  · rw [sx_ne _ e, sx_ne _ e, va_up_ne _ _ e]
theorem QX.lay {q : q_T} {P T f k : Nat} (h : QX q P T) (hf : f < 256) (hP : f ≠ P) (hk : k < 7) (h0 : q.1 f = 0) : QX (q_lay q f k) P (T + 2 ^ k) := by
  have hc : ∀ j, cF q.1 q.2.1 j f = 0 := fun j => if_neg (by omega)
  have hg : gF q.1 q.2.1 f = 0 := if_neg (fun z => z.1 h0)
  refine ⟨fun j hj => ?_, ?_⟩
  · rw [cF_lay, sx_up hP, sum_up hf, sx_id (g := sx _ P) (by rw [sx_ne _ hP]; exact hc j)]
    show upd q.2.2 k (q.2.2 k + 1) j = _
    by_cases e : k = j
    · subst e
      rw [upd_self, if_pos rfl, h.1 k hk]
      exact nI_add _ 1
    · rw [upd_ne _ _ (Ne.symm e), if_neg e, h.1 j hj, Nat.add_zero]
  · rw [gF_lay, sx_up hP, sum_up hf, sx_id (g := sx _ P) (by rw [sx_ne _ hP]; exact hg), h.2]
theorem QX.fin {q : q_T} {T f k : Nat} (h : QX q f T) (hf : f < 256) (hk : k < 7) : QC (q_lay q f k) (T + 2 ^ k) := by
  refine ⟨fun j hj => ?_, ?_⟩
  · rw [cF_lay, sum_up hf]
    show upd q.2.2 k (q.2.2 k + 1) j = _
    by_cases e : k = j
    · subst e
      rw [upd_self, if_pos rfl, h.1 k hk]
      exact nI_add _ 1
    · rw [upd_ne _ _ (Ne.symm e), if_neg e, h.1 j hj, Nat.add_zero]
  · rw [gF_lay, sum_up hf, h.2]
