/-! the start: page by page, and the greatest block from each page on, make the same blocks -/
def NB (od : Nat → Nat) : Prop := ∀ g k, g < 256 → k < 6 → od g = k + 1 → od (g ^^^ 2 ^ k) ≠ k + 1
def NBx (od : Nat → Nat) (f : Nat) : Prop := ∀ g k, g < 256 → k < 6 → od g = k + 1 → od (g ^^^ 2 ^ k) = k + 1 → g = f ∨ g ^^^ 2 ^ k = f
theorem xor_inv (g m : Nat) : (g ^^^ m) ^^^ m = g := by rw [Nat.xor_assoc, Nat.xor_self, Nat.xor_zero]
theorem nb_join : ∀ (n : Nat) (q : q_T) (f k : Nat), n + k = 6 → (∀ g, q.2.1 g = 0) → NBx (va_up q.1 f (k + 1)) f → NB (q_join n q f k).1 := by
  intro n
  induction n with
  | zero =>
    intro q f k hn hu h g j hg hj h1 h2
    rcases h g j hg hj h1 h2 with e | e
    · rw [e] at h1
      have := (va_up_self q.1 f (k + 1)).symm.trans h1
      omega
    · rw [e] at h2
      have := (va_up_self q.1 f (k + 1)).symm.trans h2
      omega
  | succ n ih =>
    intro q f k hn hu h
    unfold q_join
    by_cases hc : k < 6 ∧ q.1 (f ^^^ 2 ^ k) = k + 1 ∧ q.2.1 (f ^^^ 2 ^ k) = 0
    · rw [if_pos hc]
      refine ih _ _ _ (by omega) hu ?_
      intro g j hg hj h1 h2
      by_cases e1 : g = min f (f ^^^ 2 ^ k)
      · exact Or.inl e1
      · by_cases e2 : g ^^^ 2 ^ j = min f (f ^^^ 2 ^ k)
        · exact Or.inr e2
        · exfalso
          rw [va_up_ne _ _ e1] at h1
          rw [va_up_ne _ _ e2] at h2
          have hz : ∀ p i, va_up (va_up q.1 f 0) (f ^^^ 2 ^ k) 0 p = i + 1 → p ≠ f ∧ q.1 p = i + 1 := fun p i hp => by
            by_cases z1 : p = f ^^^ 2 ^ k
            · rw [z1, va_up_self] at hp; omega
            · rw [va_up_ne _ _ z1] at hp
              by_cases z2 : p = f
              · rw [z2, va_up_self] at hp; omega
              · rw [va_up_ne _ _ z2] at hp
                exact ⟨z2, hp⟩
          have g1 := hz _ _ h1
          have g2 := hz _ _ h2
          rcases h g j hg hj (by rw [va_up_ne _ _ g1.1]; exact g1.2) (by rw [va_up_ne _ _ g2.1]; exact g2.2) with e | e
          · exact g1.1 e
          · exact g2.1 e
    · rw [if_neg hc]
      intro g j hg hj h1 h2
      have hp := Nat.two_pow_pos k
      have hb : f ^^^ 2 ^ k ≠ f := fun z => by
        have h9 : (f ^^^ 2 ^ k) ^^^ f = 0 := by rw [z, Nat.xor_self]
        rw [Nat.xor_comm f, Nat.xor_assoc, Nat.xor_self, Nat.xor_zero] at h9
        omega
      rcases h g j hg hj h1 h2 with e | e
      · subst e
        have h3 := (va_up_self q.1 g (k + 1)).symm.trans h1
        have hjk : j = k := by omega
        subst hjk
        have h4 := (va_up_ne q.1 (j + 1) hb).symm.trans h2
        exact hc ⟨hj, h4, hu _⟩
      · have h3 : k + 1 = j + 1 := by
          have h4 : va_up q.1 f (k + 1) (g ^^^ 2 ^ j) = j + 1 := h2
          rw [e, va_up_self] at h4
          exact h4
        have hjk : j = k := by omega
        subst hjk
        have h5 : g = f ^^^ 2 ^ j := by rw [← e, xor_inv]
        have h6 : va_up q.1 f (j + 1) g = j + 1 := h1
        rw [h5, va_up_ne _ _ hb] at h6
        exact hc ⟨hj, h6, hu _⟩
theorem us_join : ∀ (n : Nat) (q : q_T) (f k : Nat), (∀ g, q.2.1 g = 0) → ∀ g, (q_join n q f k).2.1 g = 0 := by
  have lay : ∀ (q : q_T) (f k : Nat), (∀ g, q.2.1 g = 0) → ∀ g, (q_lay q f k).2.1 g = 0 := fun q f k h g => by
    show va_up q.2.1 f 0 g = 0
    unfold va_up
    split
    · rfl
    · exact h g
  intro n
  induction n with
  | zero => intro q f k h; exact lay q f k h
  | succ n ih =>
    intro q f k h
    unfold q_join
    split
    · exact ih _ _ _ h
    · exact lay q f k h
def tdl (td : Nat → Int32) (p : Nat) : Nat → Int32 := fun x => if x < p then td x else 0
def gU (td : Nat → Int32) : Nat → Nat := fun p => if td p = 0 then 0 else 1
def OI (td : Nat → Int32) (p : Nat) (q : q_T) : Prop := (∃ fo oo tk co, PB q.1 q.2.1 (tdl td p) fo oo tk co) ∧ QC q (r_sum (gU td) p) ∧ (∀ g, q.2.1 g = 0) ∧ NB q.1
theorem open_all (td : Nat → Int32) : ∀ (n p : Nat) (q : q_T), n + p = 256 → OI td p q → OI td 256 (q_open td n p q) := by
  intro n
  induction n with
  | zero => intro p q hn h; rw [show p = 256 by omega] at h; exact h
  | succ n ih =>
    intro p q hn h
    unfold q_open
    refine ih (p + 1) _ (by omega) ?_
    obtain ⟨⟨fo, oo, tk, co, hp⟩, hc, hu, hb⟩ := h
    by_cases ht : td p = 0
    · rw [if_pos ht]
      have e1 : tdl td (p + 1) = tdl td p := by
        funext x
        unfold tdl
        by_cases e : x < p
        · rw [if_pos e, if_pos (by omega)]
        · rw [if_neg e]
          by_cases e2 : x < p + 1
          · rw [if_pos e2, show x = p by omega, ht]
          · rw [if_neg e2]
      refine ⟨⟨fo, oo, tk, co, by rw [e1]; exact hp⟩, ?_, hu, hb⟩
      rw [show r_sum (gU td) (p + 1) = r_sum (gU td) p + gU td p from rfl, show gU td p = 0 from if_pos ht]
      exact hc
    · rw [if_neg ht]
      have e1 : tdl td (p + 1) = upd (tdl td p) p (td p) := by
        funext x
        unfold tdl upd
        by_cases e : x = p
        · rw [if_pos e, if_pos (by omega), e]
        · rw [if_neg e]
          dsimp only
          by_cases e2 : x < p
          · rw [if_pos e2, if_pos (by omega)]
          · rw [if_neg e2, if_neg (by omega)]
      have e0 : tdl td p p = 0 := if_neg (by omega)
      have ho : q.1 p = 0 := by
        rcases Nat.eq_zero_or_pos (q.1 p) with z | z
        · exact z
        · have := hp.1 p (by omega) (by omega)
          exact absurd e0 (this.2.2.1 p (by omega) this.2.1).1
      have h2 := hp.add (P := p) (v := td p) (by omega) e0 ht
      rw [← e1] at h2
      have hx : QX q p (r_sum (gU td) p) := by
        refine ⟨fun j hj => ?_, ?_⟩
        · rw [sx_id (show cF q.1 q.2.1 j p = 0 from if_neg (by omega))]
          exact hc.1 j hj
        · rw [sx_id (show gF q.1 q.2.1 p = 0 from if_neg (fun z => z.1 ho))]
          exact hc.2
      have g := jn_all 6 q (fun _ => 1, fun i => if i = 1 then va_up fo p p else va_up oo p 0, fun i => if i = 0 then tdl td (p + 1) else if i = 1 then upd tk p 0 else upd co p (-1)) p 0 (r_sum (gU td) p) rfl (by omega) (show ¬ (1 : Int32) = 0 by decide) h2 hx
      refine ⟨⟨_, _, _, _, g.1⟩, ?_, us_join _ _ _ _ hu, nb_join 6 q p 0 rfl hu ?_⟩
      · rw [show r_sum (gU td) (p + 1) = r_sum (gU td) p + gU td p from rfl, show gU td p = 1 from if_neg ht]
        exact g.2.1
      · intro x k hx hk h3 h4
        by_cases z1 : x = p
        · exact Or.inl z1
        · by_cases z2 : x ^^^ 2 ^ k = p
          · exact Or.inr z2
          · rw [va_up_ne _ _ z1] at h3
            rw [va_up_ne _ _ z2] at h4
            exact absurd h4 (hb x k hx hk h3)
/-- a region that is wholly usable lies in one block -/
theorem nb_max {od us : Nat → Nat} {td : Nat → Int32} {fo oo : Nat → Nat} {tk co : Nat → Int32} (h : PB od us td fo oo tk co) (hb : NB od) : ∀ k, k ≤ 6 → ∀ x, x < 256 → (∀ y, y < 256 → bk k y = bk k x → ¬ td y = 0) → k + 1 ≤ od (fo x) := by
  intro k
  induction k with
  | zero =>
    intro _ x hx hu
    have := (h.2 x hx (hu x hx rfl)).2.1
    omega
  | succ k ih =>
    intro hk x hx hu
    have hx2 : ∀ y, y < 256 → bk k y = bk k x → ¬ td y = 0 := fun y hy e => hu y hy (by rw [← bk_bk (Nat.le_succ k) y, e, bk_bk (Nat.le_succ k)])
    have h1 := ih (by omega) x hx hx2
    rcases Nat.lt_or_ge (k + 1) (od (fo x)) with z | z
    · omega
    · exfalso
      have e1 : od (fo x) = k + 1 := by omega
      obtain ⟨c1, c2, c3⟩ := h.2 x hx (hu x hx rfl)
      rw [e1, Nat.add_sub_cancel] at c3
      have hgl := bk_le k x
      have hga : bk k (bk k x) = bk k x := bk_bk (Nat.le_refl k) x
      obtain ⟨b1, b2, b3, b4, b5, b6⟩ := bk_bud k (by omega) (bk k x) (by omega) hga
      have hpr := bk_pair (k := k) (f := bk k x) (by omega) (by omega) hga
      have ey : bk (k + 1) (bk k x ^^^ 2 ^ k) = bk (k + 1) x := by
        rw [(hpr (bk k x ^^^ 2 ^ k)).mpr (Or.inr b3), (hpr x).mpr (Or.inl rfl)]
      have hy2 : ∀ y, y < 256 → bk k y = bk k (bk k x ^^^ 2 ^ k) → ¬ td y = 0 := fun y hy e => hu y hy (by rw [← bk_bk (Nat.le_succ k) y, e, bk_bk (Nat.le_succ k), ey])
      have h2 := ih (by omega) _ b1 hy2
      obtain ⟨d1, d2, d3⟩ := h.2 _ b1 (hy2 _ b1 rfl)
      rcases Nat.lt_or_ge (k + 1) (od (fo (bk k x ^^^ 2 ^ k))) with z2 | z2
      · have e3 : bk (od (fo (bk k x ^^^ 2 ^ k)) - 1) x = fo (bk k x ^^^ 2 ^ k) := by
          rw [← bk_bk (show k + 1 ≤ od (fo (bk k x ^^^ 2 ^ k)) - 1 by omega) x, ← ey, bk_bk (by omega), d3]
        have := ((h.1 _ d1 d2).2.2.1 x hx e3).2
        rw [← this] at z2
        omega
      · have e4 : od (fo (bk k x ^^^ 2 ^ k)) = k + 1 := by omega
        rw [e4, Nat.add_sub_cancel, b3] at d3
        rw [← d3] at e4
        refine hb (bk k x) k (by omega) (by omega) ?_ e4
        rw [c3]
        exact e1
theorem au_at {us : Nat → Int32} : ∀ (n p : Nat), r_au us n p = true ↔ ∀ y, p ≤ y → y < p + n → y < 256 ∧ ¬ us y = 0 := by
  intro n
  induction n with
  | zero => intro p; exact ⟨fun _ y h1 h2 => by omega, fun _ => rfl⟩
  | succ n ih =>
    intro p
    unfold r_au
    rw [Bool.and_eq_true, decide_eq_true_iff, ih]
    constructor
    · rintro ⟨h1, h2⟩ y h3 h4
      by_cases e : y = p
      · rw [e]; exact h1
      · exact h2 y (by omega) (by omega)
    · intro h
      exact ⟨h p (by omega) (by omega), fun y h1 h2 => h y (by omega) (by omega)⟩
theorem so_at {us : Nat → Int32} {P : Nat} (hP : P < 256) (hu : ¬ us P = 0) : ∀ K, r_so us P K ≤ K ∧ bk (r_so us P K) P = P ∧ r_au us (2 ^ r_so us P K) P = true ∧ ∀ j, r_so us P K < j → j ≤ K → ¬ (P % 2 ^ j = 0 ∧ r_au us (2 ^ j) P = true) := by
  intro K
  induction K with
  | zero => exact ⟨Nat.le_refl _, bk_0 P, (au_at 1 P).mpr (fun y h1 h2 => by rw [show y = P by omega]; exact ⟨hP, hu⟩), fun j h1 h2 => by omega⟩
  | succ K ih =>
    unfold r_so
    by_cases hc : P % 2 ^ (K + 1) = 0 ∧ r_au us (2 ^ (K + 1)) P = true
    · rw [if_pos hc]
      exact ⟨Nat.le_refl _, bk_mod.mpr hc.1, hc.2, fun j h1 h2 => by omega⟩
    · rw [if_neg hc]
      refine ⟨by omega, ih.2.1, ih.2.2.1, fun j h1 h2 => ?_⟩
      by_cases e : j = K + 1
      · rw [e]; exact hc
      · exact ih.2.2.2 j h1 (by omega)
def RG (td : Nat → Int32) (p : Nat) (fo oo : Nat → Nat) (tk co : Nat → Int32) : Prop := ∀ x, x < p → x < 256 → ¬ td x = 0 → oo (fo x) ≤ 6 ∧ bk (oo (fo x)) x = fo x ∧ fo x + 2 ^ oo (fo x) ≤ p ∧ (∀ y, y < 256 → bk (oo (fo x)) y = fo x → ¬ td y = 0 ∧ fo y = fo x) ∧ (oo (fo x) = 6 ∨ ∃ y, y < 256 ∧ bk (oo (fo x) + 1) y = bk (oo (fo x) + 1) x ∧ td y = 0) ∧ tk (fo x) = 0 ∧ co (fo x) = -1
theorem st_all (td : Nat → Int32) : ∀ (n p : Nat) (r : r_T), 256 ≤ n + p → RG td p (r.2.1 1) (r.2.1 2) (r.2.2 1) (r.2.2 2) → ∃ p', 256 ≤ p' ∧ RG td p' ((r_st td n p r).2.1 1) ((r_st td n p r).2.1 2) ((r_st td n p r).2.2 1) ((r_st td n p r).2.2 2) := by
  intro n
  induction n with
  | zero => intro p r hn h; exact ⟨p, by omega, h⟩
  | succ n ih =>
    intro p r hn h
    unfold r_st
    by_cases hp : p < 256
    · rw [if_pos hp]
      by_cases ht : td p = 0
      · rw [if_pos ht]
        refine ih (p + 1) r (by omega) (fun x hx hx2 hxt => ?_)
        have hxp : x < p := by
          rcases Nat.lt_or_ge x p with z | z
          · exact z
          · rw [show x = p by omega] at hxt; exact absurd ht hxt
        obtain ⟨a1, a2, a3, a4⟩ := h x hxp hx2 hxt
        exact ⟨a1, a2, by omega, a4⟩
      · rw [if_neg ht]
        obtain ⟨s1, s2, s3, s4⟩ := so_at (us := td) hp ht 6
        generalize hk : r_so td p 6 = k at *
        have hpp := Nat.two_pow_pos k
        have s5 := bk_end k (by omega) p hp s2
        have s6 := (au_at _ _).mp s3
        refine ih (p + 2 ^ k) _ (by omega) (fun x hx hx2 hxt => ?_)
        show va_up (r.2.1 2) p k (r_run (r.2.1 1) p (2 ^ k) p x) ≤ 6 ∧ bk (va_up (r.2.1 2) p k (r_run (r.2.1 1) p (2 ^ k) p x)) x = r_run (r.2.1 1) p (2 ^ k) p x ∧ r_run (r.2.1 1) p (2 ^ k) p x + 2 ^ (va_up (r.2.1 2) p k (r_run (r.2.1 1) p (2 ^ k) p x)) ≤ p + 2 ^ k ∧ (∀ y, y < 256 → bk (va_up (r.2.1 2) p k (r_run (r.2.1 1) p (2 ^ k) p x)) y = r_run (r.2.1 1) p (2 ^ k) p x → ¬ td y = 0 ∧ r_run (r.2.1 1) p (2 ^ k) p y = r_run (r.2.1 1) p (2 ^ k) p x) ∧ (va_up (r.2.1 2) p k (r_run (r.2.1 1) p (2 ^ k) p x) = 6 ∨ ∃ y, y < 256 ∧ bk (va_up (r.2.1 2) p k (r_run (r.2.1 1) p (2 ^ k) p x) + 1) y = bk (va_up (r.2.1 2) p k (r_run (r.2.1 1) p (2 ^ k) p x) + 1) x ∧ td y = 0) ∧ upd (r.2.2 1) p 0 (r_run (r.2.1 1) p (2 ^ k) p x) = 0 ∧ upd (r.2.2 2) p (-1) (r_run (r.2.1 1) p (2 ^ k) p x) = -1
        rcases Nat.lt_or_ge x p with hxp | hxp
        · obtain ⟨a1, a2, a3, a4, a5, a6, a7⟩ := h x hxp hx2 hxt
          have o1 : ∀ y, y < p → r_run (r.2.1 1) p (2 ^ k) p y = r.2.1 1 y := fun y hy => by rw [r_run_at, if_neg (by omega)]
          have hf : r.2.1 1 x ≠ p := by have := bk_le (r.2.1 2 (r.2.1 1 x)) x; omega
          rw [o1 x hxp, va_up_ne _ _ hf, upd_ne _ _ hf, upd_ne _ _ hf]
          refine ⟨a1, a2, by omega, fun y hy e => ?_, a5, a6, a7⟩
          have hyp : y < p := by
            have h8 := bk_lt (r.2.1 2 (r.2.1 1 x)) y
            omega
          rw [o1 y hyp]
          exact a4 y hy e
        · have hin : bk k x = p := (bk_iff s2 x).mpr ⟨hxp, hx⟩
          rw [run_in s2 hin, va_up_self, upd_self, upd_self]
          refine ⟨s1, hin, Nat.le_refl _, fun y hy e => ⟨(s6 y ((bk_iff s2 y).mp e).1 ((bk_iff s2 y).mp e).2).2, run_in s2 e⟩, ?_, rfl, rfl⟩
          rcases Nat.lt_or_ge k 6 with hk6 | hk6
          · refine Or.inr (Classical.byContradiction (fun hno => ?_))
            have hall : ∀ y, y < 256 → bk (k + 1) y = bk (k + 1) p → ¬ td y = 0 := fun y hy e z => hno ⟨y, hy, by rw [e, ← hin, bk_bk (Nat.le_succ k)], z⟩
            by_cases hal : bk (k + 1) p = p
            · refine s4 (k + 1) (by omega) (by omega) ⟨bk_mod.mp hal, (au_at _ _).mpr (fun y h1 h2 => ?_)⟩
              have h3 := bk_end (k + 1) (by omega) p hp hal
              exact ⟨by omega, hall y (by omega) (by rw [hal]; exact (bk_iff hal y).mpr ⟨h1, h2⟩)⟩
            · have g1 := bk_le (k + 1) p
              have g2 : bk (k + 1) (bk (k + 1) p) = bk (k + 1) p := bk_bk (Nat.le_refl _) p
              obtain ⟨a1, a2, a3, a4, a5, -⟩ := h (bk (k + 1) p) (by omega) (by omega) (hall _ (by omega) g2)
              generalize hf : r.2.1 1 (bk (k + 1) p) = f at *
              rcases Nat.lt_or_ge (r.2.1 2 f) (k + 1) with z | z
              · rcases a5 with a5 | ⟨y, y1, y2, y3⟩
                · omega
                · refine hall y y1 ?_ y3
                  rw [← bk_bk (show r.2.1 2 f + 1 ≤ k + 1 by omega) y, y2, bk_bk (by omega), g2]
              · have e9 : bk (r.2.1 2 f) p = f := by rw [← bk_bk z p, a2]
                have := bk_lt (r.2.1 2 f) p
                omega
          · exact Or.inl (by omega)
    · rw [if_neg hp]
      exact ⟨p, by omega, h⟩
theorem PB.td {od us : Nat → Nat} {td td' : Nat → Int32} {fo oo : Nat → Nat} {tk co : Nat → Int32} (h : PB od us td fo oo tk co) (he : ∀ x, x < 256 → td x = td' x) : PB od us td' fo oo tk co := by
  refine ⟨fun g hg ho => ?_, fun x hx ht => h.2 x hx (by rw [he x hx]; exact ht)⟩
  obtain ⟨a1, a2, a3, a4⟩ := h.1 g hg ho
  exact ⟨a1, a2, fun x hx e => by rw [← he x hx]; exact a3 x hx e, a4⟩
theorem start_all {td : Nat → Int32} {q : q_T} {r : r_T} (h : OI td 256 q) {p : Nat} (hp : 256 ≤ p) (hr : RG td p (r.2.1 1) (r.2.1 2) (r.2.2 1) (r.2.2 2)) : PB q.1 q.2.1 td (r.2.1 1) (r.2.1 2) (r.2.2 1) (r.2.2 2) ∧ QC q (r_sum (gU td) 256) ∧ ∀ G p, tg G q p = 0 := by
  obtain ⟨⟨fo, oo, tk, co, hb0⟩, hc, hu, hn⟩ := h
  have hb := hb0.td (td' := td) (fun x hx => if_pos hx)
  have key : ∀ x, x < 256 → ¬ td x = 0 → r.2.1 1 x = fo x ∧ r.2.1 2 (fo x) = q.1 (fo x) - 1 ∧ r.2.2 1 (fo x) = 0 ∧ r.2.2 2 (fo x) = -1 := fun x hx ht => by
    obtain ⟨a1, a2, a3, a4, a5, a6, a7⟩ := hr x (by omega) hx ht
    obtain ⟨c1, c2, c3⟩ := hb.2 x hx ht
    have c4 := hb.1 _ c1 c2
    have e1 : r.2.1 2 (r.2.1 1 x) = q.1 (fo x) - 1 := by
      rcases Nat.lt_trichotomy (r.2.1 2 (r.2.1 1 x)) (q.1 (fo x) - 1) with z | z | z
      · exfalso
        rcases a5 with a5 | ⟨y, y1, y2, y3⟩
        · omega
        · refine (c4.2.2.1 y y1 ?_).1 y3
          rw [← bk_bk (show r.2.1 2 (r.2.1 1 x) + 1 ≤ q.1 (fo x) - 1 by omega) y, y2, bk_bk (by omega), c3]
      · exact z
      · exfalso
        have := nb_max hb hn (r.2.1 2 (r.2.1 1 x)) a1 x hx (fun y hy e => (a4 y hy (by rw [e, a2])).1)
        omega
    have e2 : r.2.1 1 x = fo x := by rw [← a2, e1, c3]
    rw [e2] at e1 a6 a7
    exact ⟨e2, e1, a6, a7⟩
  refine ⟨⟨fun f hf ho => ?_, fun x hx ht => ?_⟩, hc, fun G p => ?_⟩
  · obtain ⟨a1, a2, a3, -⟩ := hb.1 f hf ho
    have hff := a3 f hf a2
    have k1 := key f hf hff.1
    rw [hff.2] at k1
    refine ⟨a1, a2, fun x hx e => ?_, k1.2.1, ?_, ?_⟩
    · have h9 := a3 x hx e
      exact ⟨h9.1, by rw [(key x hx h9.1).1]; exact h9.2⟩
    · rw [hu f, if_pos rfl]; exact k1.2.2.1
    · rw [hu f, if_pos (by omega)]; exact k1.2.2.2
  · rw [(key x hx ht).1]
    exact hb.2 x hx ht
  · exact if_pos (Or.inr (hu p))
theorem st_na (td : Nat → Int32) : ∀ (n p : Nat) (r : r_T), (r_st td n p r).1 = r.1 ∧ ∀ i, i ≠ 1 → i ≠ 2 → (r_st td n p r).2.1 i = r.2.1 i ∧ (r_st td n p r).2.2 i = r.2.2 i := by
  intro n
  induction n with
  | zero => intro p r; exact ⟨rfl, fun _ _ _ => ⟨rfl, rfl⟩⟩
  | succ n ih =>
    intro p r
    unfold r_st
    split
    · split
      · exact ih _ _
      · have g := ih (p + 2 ^ r_so td p 6) (r_mk r p (r_so td p 6) 0)
        refine ⟨g.1, fun i h1 h2 => ?_⟩
        rw [(g.2 i h1 h2).1, (g.2 i h1 h2).2, r_mk_na h1 h2, r_mk_ia h1 h2]
        exact ⟨rfl, rfl⟩
    · exact ⟨rfl, fun _ _ _ => ⟨rfl, rfl⟩⟩
theorem st_b (td : Nat → Int32) : ∀ (n p : Nat) (r : r_T), (∀ p, r.2.1 1 p < 256) → (∀ p, r.2.1 2 p ≤ 6) → (∀ x, (r_st td n p r).2.1 1 x < 256) ∧ ∀ x, (r_st td n p r).2.1 2 x ≤ 6 := by
  intro n
  induction n with
  | zero => intro p r h1 h2; exact ⟨h1, h2⟩
  | succ n ih =>
    intro p r h1 h2
    unfold r_st
    split
    · split
      · exact ih _ _ h1 h2
      · exact ih _ _ (r_mk_fo h1 (by assumption)) (r_mk_oo h2 (r_so_le 6))
    · exact ⟨h1, h2⟩
