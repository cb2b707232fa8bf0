/-! blocks as a partition -/
def bk (k x : Nat) : Nat := x / 2 ^ k * 2 ^ k
theorem bk_le (k x : Nat) : bk k x ≤ x := Nat.div_mul_le_self _ _
theorem bk_lt (k x : Nat) : x < bk k x + 2 ^ k := by
  unfold bk
  have h := Nat.div_add_mod x (2 ^ k)
  have h2 := Nat.mod_lt x (Nat.two_pow_pos k)
  rw [Nat.mul_comm] at h
  omega
theorem bk_0 (x : Nat) : bk 0 x = x := by
  unfold bk
  rw [Nat.pow_zero, Nat.div_one, Nat.mul_one]
theorem bk_bk {k j : Nat} (h : k ≤ j) (x : Nat) : bk j (bk k x) = bk j x := by
  unfold bk
  obtain ⟨d, rfl⟩ : ∃ d, j = k + d := ⟨j - k, by omega⟩
  congr 1
  rw [Nat.pow_add, ← Nat.div_div_eq_div_mul, ← Nat.div_div_eq_div_mul, Nat.mul_div_cancel _ (Nat.two_pow_pos k)]
theorem bk_mod {k f : Nat} : bk k f = f ↔ f % 2 ^ k = 0 := by
  unfold bk
  have h := Nat.div_add_mod f (2 ^ k)
  rw [Nat.mul_comm] at h
  constructor
  · intro e; omega
  · intro e; omega
theorem bk_iff {k f : Nat} (h : bk k f = f) (x : Nat) : bk k x = f ↔ f ≤ x ∧ x < f + 2 ^ k := by
  constructor
  · intro e
    have h1 := bk_le k x
    have h2 := bk_lt k x
    omega
  · intro e
    obtain ⟨a, ha⟩ : ∃ a, f = a * 2 ^ k := ⟨f / 2 ^ k, h.symm⟩
    have h3 : x / 2 ^ k = a := by
      have hp := Nat.two_pow_pos k
      apply Nat.div_eq_of_lt_le
      · omega
      · rw [Nat.succ_mul]; omega
    unfold bk
    rw [h3, ha]
theorem bk_end : ∀ k, k < 7 → ∀ f, f < 256 → bk k f = f → f + 2 ^ k ≤ 256 := by decide +kernel
theorem bk_spl : ∀ k, k < 6 → ∀ f, f < 256 → bk (k + 1) f = f → f + 2 ^ k < 256 ∧ bk k (f + 2 ^ k) = f + 2 ^ k ∧ bk k f = f ∧ bk (k + 1) (f + 2 ^ k) = f := by decide +kernel
theorem bk_half {k f : Nat} (hk : k < 6) (hf : f < 256) (h : bk (k + 1) f = f) (x : Nat) : bk (k + 1) x = f ↔ bk k x = f ∨ bk k x = f + 2 ^ k := by
  obtain ⟨h1, h2, h3, h4⟩ := bk_spl k hk f hf h
  rw [bk_iff h, bk_iff h2, bk_iff h3, Nat.pow_succ]
  omega
theorem bk_bud : ∀ k, k < 6 → ∀ f, f < 256 → bk k f = f → f ^^^ 2 ^ k < 256 ∧ f ^^^ 2 ^ k ≠ f ∧ bk k (f ^^^ 2 ^ k) = f ^^^ 2 ^ k ∧ bk (k + 1) (min f (f ^^^ 2 ^ k)) = min f (f ^^^ 2 ^ k) ∧ max f (f ^^^ 2 ^ k) = min f (f ^^^ 2 ^ k) + 2 ^ k ∧ (f ^^^ 2 ^ k) ^^^ 2 ^ k = f := by decide +kernel
theorem bk_pair {k f : Nat} (hk : k < 6) (hf : f < 256) (h : bk k f = f) (x : Nat) : bk (k + 1) x = min f (f ^^^ 2 ^ k) ↔ bk k x = f ∨ bk k x = f ^^^ 2 ^ k := by
  obtain ⟨h1, h2, h3, h4, h5, -⟩ := bk_bud k hk f hf h
  rw [bk_half hk (by omega) h4]
  rcases Nat.lt_or_ge f (f ^^^ 2 ^ k) with g | g
  · rw [Nat.min_eq_left (by omega)] at h5 ⊢
    rw [Nat.max_eq_right (by omega)] at h5
    rw [h5]
  · rw [Nat.min_eq_right (by omega)] at h5 ⊢
    rw [Nat.max_eq_left (by omega)] at h5
    rw [← h5]
    exact Or.comm
theorem run_in {fo : Nat → Nat} {P k x : Nat} (h : bk k P = P) (hx : bk k x = P) : r_run fo P (2 ^ k) P x = P := by
  rw [r_run_at, if_pos ((bk_iff h x).mp hx)]
theorem run_out {fo : Nat → Nat} {P k x : Nat} (h : bk k P = P) (hx : ¬ bk k x = P) : r_run fo P (2 ^ k) P x = fo x := by
  rw [r_run_at, if_neg (fun z => hx ((bk_iff h x).mpr z))]
theorem upd_self (f : Nat → Int32) (k : Nat) (v : Int32) : upd f k v k = v := if_pos rfl
theorem upd_ne (f : Nat → Int32) {k j : Nat} (v : Int32) (h : j ≠ k) : upd f k v j = f j := if_neg h
def PB (od us : Nat → Nat) (td : Nat → Int32) (fo oo : Nat → Nat) (tk co : Nat → Int32) : Prop :=
  (∀ f, f < 256 → od f ≠ 0 → od f ≤ 7 ∧ bk (od f - 1) f = f ∧ (∀ x, x < 256 → bk (od f - 1) x = f → ¬ td x = 0 ∧ fo x = f) ∧ oo f = od f - 1 ∧ tk f = (if us f = 0 then 0 else 1) ∧ co f = (if us f ≤ 1 then -1 else nI (us f - 2))) ∧
  (∀ x, x < 256 → ¬ td x = 0 → fo x < 256 ∧ od (fo x) ≠ 0 ∧ bk (od (fo x) - 1) x = fo x)
theorem PB.split {od us : Nat → Nat} {td : Nat → Int32} {fo oo : Nat → Nat} {tk co : Nat → Int32} (h : PB od us td fo oo tk co) {P k : Nat} (hP : P < 256) (hk : k < 6) (ho : od P = k + 2) :
    PB (va_up (va_up od P (k + 1)) (P + 2 ^ k) (k + 1)) (va_up us (P + 2 ^ k) 0) td (r_run fo (P + 2 ^ k) (2 ^ k) (P + 2 ^ k)) (va_up (va_up oo P k) (P + 2 ^ k) k) (upd tk (P + 2 ^ k) 0) (upd co (P + 2 ^ k) (-1)) := by
  obtain ⟨hA, hB⟩ := h
  obtain ⟨a1, a2, a3, a4, a5, a6⟩ := hA P hP (by omega)
  rw [ho] at a2 a3
  simp only [show k + 2 - 1 = k + 1 by omega] at a2 a3
  obtain ⟨b1, b2, b3, b4⟩ := bk_spl k hk P hP a2
  have hp := Nat.two_pow_pos k
  have hne : P + 2 ^ k ≠ P := by omega
  have ha3 : ∀ x, x < 256 → (bk k x = P ∨ bk k x = P + 2 ^ k) → ¬ td x = 0 ∧ fo x = P := fun x hx hb => a3 x hx ((bk_half hk hP a2 x).mpr hb)
  refine ⟨fun f hf hof => ?_, fun x hx ht => ?_⟩
  · by_cases e1 : f = P + 2 ^ k
    · subst e1
      rw [va_up_self] at hof ⊢
      simp only [va_up_self, upd_self, Nat.add_sub_cancel]
      exact ⟨by omega, b2, fun x hx hb => ⟨(ha3 x hx (Or.inr hb)).1, run_in b2 hb⟩, trivial, rfl, rfl⟩
    · rw [va_up_ne _ _ e1, va_up_ne _ _ e1, va_up_ne _ _ e1, upd_ne _ _ e1, upd_ne _ _ e1] at *
      by_cases e2 : f = P
      · subst e2
        simp only [va_up_self, Nat.add_sub_cancel] at hof ⊢
        exact ⟨by omega, b3, fun x hx hb => ⟨(ha3 x hx (Or.inl hb)).1, by rw [run_out b2 (by omega)]; exact (ha3 x hx (Or.inl hb)).2⟩, trivial, a5, a6⟩
      · rw [va_up_ne _ _ e2] at hof ⊢
        rw [va_up_ne _ _ e2]
        obtain ⟨c1, c2, c3, c4⟩ := hA f hf hof
        refine ⟨c1, c2, fun x hx hb => ?_, c4⟩
        have c5 := c3 x hx hb
        refine ⟨c5.1, ?_⟩
        rw [run_out b2 (fun z => ?_)]
        · exact c5.2
        · have := (ha3 x hx (Or.inr z)).2
          omega
  · obtain ⟨c1, c2, c3⟩ := hB x hx ht
    by_cases e : bk k x = P + 2 ^ k
    · rw [run_in b2 e]
      refine ⟨b1, ?_, ?_⟩
      · rw [va_up_self]; omega
      · rw [va_up_self]; exact e
    · rw [run_out b2 e]
      refine ⟨c1, ?_⟩
      by_cases e2 : fo x = P
      · rw [e2] at c3 ⊢
        rw [ho] at c3
        rw [va_up_ne _ _ (Ne.symm hne), va_up_self]
        have := (bk_half hk hP a2 x).mp c3
        refine ⟨by omega, ?_⟩
        rcases this with g | g
        · exact g
        · exact absurd g e
      · have e3 : fo x ≠ P + 2 ^ k := fun z => by
          rw [z] at c1 c2 c3
          have h9 := (hA (P + 2 ^ k) c1 c2).2.2.1 (P + 2 ^ k) c1 ((hA (P + 2 ^ k) c1 c2).2.1)
          have h8 := (ha3 (P + 2 ^ k) c1 (Or.inr b2)).2
          omega
        rw [va_up_ne _ _ e3, va_up_ne _ _ e2]
        exact ⟨c2, c3⟩
theorem PB.join {od us : Nat → Nat} {td : Nat → Int32} {fo oo : Nat → Nat} {tk co : Nat → Int32} (h : PB od us td fo oo tk co) {f k : Nat} (hf : f < 256) (hk : k < 6) (h1 : od f = k + 1) (h2 : od (f ^^^ 2 ^ k) = k + 1) :
    PB (va_up (va_up (va_up od f 0) (f ^^^ 2 ^ k) 0) (min f (f ^^^ 2 ^ k)) (k + 2)) (va_up us (min f (f ^^^ 2 ^ k)) 0) td (r_run fo (min f (f ^^^ 2 ^ k)) (2 ^ (k + 1)) (min f (f ^^^ 2 ^ k))) (va_up oo (min f (f ^^^ 2 ^ k)) (k + 1)) (upd tk (min f (f ^^^ 2 ^ k)) 0) (upd co (min f (f ^^^ 2 ^ k)) (-1)) := by
  obtain ⟨hA, hB⟩ := h
  obtain ⟨-, a2, a3, -⟩ := hA f hf (by omega)
  rw [h1] at a2 a3
  simp only [Nat.add_sub_cancel] at a2 a3
  obtain ⟨b1, b2, b3, b4, b5, -⟩ := bk_bud k hk f hf a2
  obtain ⟨-, -, d3, -⟩ := hA (f ^^^ 2 ^ k) b1 (by omega)
  rw [h2] at d3
  simp only [Nat.add_sub_cancel] at d3
  have hpr := bk_pair hk hf a2
  generalize hb : f ^^^ 2 ^ k = b at *
  have hm : min f b = f ∨ min f b = b := by omega
  generalize hmm : min f b = m at *
  have hin : ∀ x, x < 256 → bk (k + 1) x = m → ¬ td x = 0 ∧ (fo x = f ∨ fo x = b) := fun x hx e => by
    rcases (hpr x).mp e with g | g
    · exact ⟨(a3 x hx g).1, Or.inl (a3 x hx g).2⟩
    · exact ⟨(d3 x hx g).1, Or.inr (d3 x hx g).2⟩
  refine ⟨fun g hg hog => ?_, fun x hx ht => ?_⟩
  · by_cases e1 : g = m
    · subst e1
      simp only [va_up_self, upd_self, show k + 2 - 1 = k + 1 by omega]
      exact ⟨by omega, b4, fun x hx e => ⟨(hin x hx e).1, run_in b4 e⟩, trivial, rfl, rfl⟩
    · rw [va_up_ne _ _ e1] at hog ⊢
      rw [va_up_ne _ _ e1, va_up_ne _ _ e1, upd_ne _ _ e1, upd_ne _ _ e1]
      have e2 : g ≠ b := fun z => by rw [z, va_up_self] at hog; exact hog rfl
      rw [va_up_ne _ _ e2] at hog ⊢
      have e3 : g ≠ f := fun z => by rw [z, va_up_self] at hog; exact hog rfl
      rw [va_up_ne _ _ e3] at hog ⊢
      obtain ⟨c1, c2, c3, c4⟩ := hA g hg hog
      refine ⟨c1, c2, fun x hx e => ?_, c4⟩
      have c5 := c3 x hx e
      refine ⟨c5.1, ?_⟩
      rw [run_out b4 (fun z => ?_)]
      · exact c5.2
      · have := (hin x hx z).2
        omega
  · obtain ⟨c1, c2, c3⟩ := hB x hx ht
    by_cases e : bk (k + 1) x = m
    · rw [run_in b4 e]
      refine ⟨by omega, ?_, ?_⟩
      · rw [va_up_self]; omega
      · rw [va_up_self]; exact e
    · rw [run_out b4 e]
      have e1 : fo x ≠ f := fun z => by
        rw [z, h1] at c3
        exact e ((hpr x).mpr (Or.inl c3))
      have e2 : fo x ≠ b := fun z => by
        rw [z, h2] at c3
        exact e ((hpr x).mpr (Or.inr c3))
      rw [va_up_ne _ _ (show fo x ≠ m by omega), va_up_ne _ _ e2, va_up_ne _ _ e1]
      exact ⟨c1, c2, c3⟩
theorem PB.add {od us : Nat → Nat} {td : Nat → Int32} {fo oo : Nat → Nat} {tk co : Nat → Int32} (h : PB od us td fo oo tk co) {P : Nat} {v : Int32} (hP : P < 256) (ht : td P = 0) (hv : ¬ v = 0) :
    PB (va_up od P 1) (va_up us P 0) (upd td P v) (va_up fo P P) (va_up oo P 0) (upd tk P 0) (upd co P (-1)) := by
  obtain ⟨hA, hB⟩ := h
  refine ⟨fun g hg hog => ?_, fun x hx hx2 => ?_⟩
  · by_cases e1 : g = P
    · subst e1
      simp only [va_up_self, upd_self]
      refine ⟨by omega, bk_0 _, fun x hx e => ?_, trivial, rfl, rfl⟩
      rw [bk_0] at e
      subst e
      rw [upd_self, va_up_self]
      exact ⟨hv, rfl⟩
    · rw [va_up_ne _ _ e1] at hog ⊢
      rw [va_up_ne _ _ e1, va_up_ne _ _ e1, upd_ne _ _ e1, upd_ne _ _ e1]
      obtain ⟨c1, c2, c3, c4⟩ := hA g hg hog
      refine ⟨c1, c2, fun x hx e => ?_, c4⟩
      have c5 := c3 x hx e
      have e2 : x ≠ P := fun z => c5.1 (by rw [z]; exact ht)
      rw [upd_ne _ _ e2, va_up_ne _ _ e2]
      exact c5
  · by_cases e1 : x = P
    · subst e1
      rw [va_up_self, va_up_self]
      exact ⟨hx, by omega, bk_0 _⟩
    · rw [upd_ne _ _ e1] at hx2
      rw [va_up_ne _ _ e1]
      obtain ⟨c1, c2, c3⟩ := hB x hx hx2
      have e2 : fo x ≠ P := fun z => by
        have h9 := (hA (fo x) c1 c2).2.2.1 (fo x) c1 (hA (fo x) c1 c2).2.1
        rw [z] at h9
        exact h9.1 ht
      rw [va_up_ne _ _ e2]
      exact ⟨c1, c2, c3⟩
theorem PB.use {od us : Nat → Nat} {td : Nat → Int32} {fo oo : Nat → Nat} {tk co : Nat → Int32} (h : PB od us td fo oo tk co) (P u : Nat) :
    PB od (va_up us P u) td fo oo (upd tk P (if u = 0 then 0 else 1)) (upd co P (if u ≤ 1 then -1 else nI (u - 2))) := by
  obtain ⟨hA, hB⟩ := h
  refine ⟨fun g hg hog => ?_, hB⟩
  obtain ⟨c1, c2, c3, c4, c5, c6⟩ := hA g hg hog
  refine ⟨c1, c2, c3, c4, ?_⟩
  by_cases e1 : g = P
  · subst e1
    simp only [va_up_self, upd_self]
    exact ⟨trivial, trivial⟩
  · rw [va_up_ne _ _ e1, upd_ne _ _ e1, upd_ne _ _ e1]
    exact ⟨c5, c6⟩
theorem PB.run {od us : Nat → Nat} {td : Nat → Int32} {fo oo : Nat → Nat} {tk co : Nat → Int32} (h : PB od us td fo oo tk co) {P k : Nat} (hP : P < 256) (ho : od P = k + 1) : r_run fo P (2 ^ k) P = fo := by
  obtain ⟨a1, a2, a3, -⟩ := h.1 P hP (by omega)
  rw [ho] at a2 a3
  simp only [Nat.add_sub_cancel] at a2 a3
  funext x
  by_cases e : bk k x = P
  · rw [run_in a2 e]
    have := bk_end k (by omega) P hP a2
    have := (bk_iff a2 x).mp e
    exact ((a3 x (by omega) e).2).symm
  · rw [run_out a2 e]
