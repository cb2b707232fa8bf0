/-! class and reference side by side -/
abbrev tu (q : q_T) : Nat → Nat := tg (fun _ u => u) q
abbrev to (q : q_T) : Nat → Nat := tg (fun o _ => o) q
theorem tu_of {q : q_T} {p : Nat} (h : q.1 p ≠ 0) : tu q p = q.2.1 p := by
  show (if q.1 p = 0 ∨ q.2.1 p = 0 then 0 else q.2.1 p) = _
  by_cases e : q.2.1 p = 0
  · rw [if_pos (Or.inr e), e]
  · rw [if_neg (fun z => z.elim h e)]
theorem tu_pos {q : q_T} {p : Nat} (h : tu q p ≠ 0) : q.1 p ≠ 0 ∧ q.2.1 p = tu q p ∧ to q p = q.1 p := by
  have h1 : ¬ (q.1 p = 0 ∨ q.2.1 p = 0) := fun z => h (if_pos z)
  refine ⟨fun z => h1 (Or.inl z), ?_, if_neg h1⟩
  exact (if_neg h1).symm
def gS (t : Nat → Nat) (c : Nat) : Nat → Nat := fun p => if t p = 2 + c then 1 else 0
def gL (t : Nat → Nat) (r : r_T) (c : Nat) : Nat → Nat := fun p => if t p = 2 + c then r_ob r c - r.2.1 4 p else 0
def gB (w : Int64) : Nat → Nat := fun i => if lb w i = true then 1 else 0
def R_n (sc td : Nat → Int32) (nc : Nat) (r : r_T) : Prop := (sc 0 = r.1 0 ∧ (sc 0 = 0 ∨ sc 0 = 1)) ∧ (td = r.2.2 0 ∧ (∀ p, td p = 0 ∨ td p = 1)) ∧ sc 1 = nI (r_sum (gU td) 256) ∧ sc 3 = r.1 6 ∧ sc 4 = r.1 3 ∧ sc 5 = r.1 4 ∧ sc 6 = r.1 5 ∧ (sc 7 = r.1 2 ∧ (sc 7 = -1 ∨ (0 ≤ sc 7 ∧ sc 7 ≤ 100))) ∧ r.1 1 = nI nc ∧ 6 ≤ nc ∧ nc ≤ 12
def R_q (sc : Nat → Int32) (q : q_T) (r : r_T) : Prop := ((∀ p, q.1 p ≤ 7) ∧ (∀ p, q.2.1 p ≤ 13)) ∧ ((∀ p, r.2.1 1 p < 256) ∧ (∀ p, r.2.1 2 p ≤ 6)) ∧ (∃ T, QC q T ∧ sc 2 = nI T) ∧ (sc 0 = 0 → q = q_0) ∧ (¬ sc 0 = 0 → PB q.1 q.2.1 (r.2.2 0) (r.2.1 1) (r.2.1 2) (r.2.2 1) (r.2.2 2))
def R_sl (S : Nat → Option s_T) (r : r_T) (ob p : Nat) : Prop := ∃ j rr f w, S p = some (j, rr, r.2.1 4 p, ob, f, w) ∧ r.2.1 4 p ≤ ob ∧ (∀ i, i < r.2.1 4 p → f i = r.2.1 3 (64 * p + i) ∧ f i < ob) ∧ (∀ a b, a < b → b < r.2.1 4 p → f a ≠ f b) ∧ (∀ i, i < ob → (lb w i = true ↔ ∀ k, k < r.2.1 4 p → f k ≠ i)) ∧ r_sum (gB w) ob + r.2.1 4 p = ob
def R_t (q : q_T) (S : Nat → Option s_T) (r : r_T) (nc : Nat) : Prop := (∀ p, p < 256 → 2 ≤ tu q p → ∃ c, c < nc ∧ tu q p = 2 + c ∧ to q p = r.2.1 8 c + 1 ∧ R_sl S r (r_ob r c) p) ∧ c_sf S ∧ (∀ i, r.2.1 3 i < 65536) ∧ (∀ p, r.2.1 4 p ≤ 64)
def R_k (r : r_T) (c : Nat) : Prop := 1 ≤ r.2.1 7 c ∧ r.2.1 7 c < 65536 ∧ r.2.1 8 c ≤ 4 ∧ 1 ≤ r_ob r c ∧ r_ob r c ≤ 64 ∧ (c < 6 → r.2.1 7 c = 8 * 2 ^ c)
def R_c1 (q : q_T) (g : Nat → Int32) (r : r_T) (c : Nat) : Prop := (g 0 = nI (2 + c) ∧ g 1 = nI (r.2.1 5 c) ∧ g 2 = nI (r.2.1 6 c) ∧ g 3 = nI (r.2.1 7 c) ∧ g 4 = nI (r.2.1 8 c) ∧ g 5 = nI (r_ob r c)) ∧ R_k r c ∧ g 6 = nI (r_sum (gS (tu q) c) 256) ∧ g 7 = nI (r_sum (gL (tu q) r c) 256) ∧ g 8 = r.2.2 3 c ∧ (g 8 = -1 ∨ ∃ E, E < 256 ∧ g 8 = nI E ∧ tu q E = 2 + c ∧ r.2.1 4 E = r_ob r c)
def R_c (q : q_T) (cf : Nat → Nat → Int32) (r : r_T) (nc : Nat) : Prop := ∀ c, c < nc → R_c1 q (cf c) r c
def RLQ (sc td : Nat → Int32) (q : q_T) (nc : Nat) (cf : Nat → Nat → Int32) (S : Nat → Option s_T) (mem : Nat → Nat) (r : r_T) : Prop := R_n sc td nc r ∧ R_q sc q r ∧ R_t q S r nc ∧ R_c q cf r nc ∧ mem = r.2.1 0
section
variable {sc td : Nat → Int32} {q : q_T} {nc : Nat} {cf : Nat → Nat → Int32} {S : Nat → Option s_T} {mem : Nat → Nat} {r : r_T}
theorem RLQ.n (h : RLQ sc td q nc cf S mem r) : R_n sc td nc r := h.1
theorem RLQ.bq (h : RLQ sc td q nc cf S mem r) : R_q sc q r := h.2.1
theorem RLQ.t (h : RLQ sc td q nc cf S mem r) : R_t q S r nc := h.2.2.1
theorem RLQ.c (h : RLQ sc td q nc cf S mem r) : R_c q cf r nc := h.2.2.2.1
theorem RLQ.m (h : RLQ sc td q nc cf S mem r) : mem = r.2.1 0 := h.2.2.2.2
theorem RLQ.st (h : RLQ sc td q nc cf S mem r) : sc 0 = r.1 0 := h.1.1.1
theorem RLQ.us (h : RLQ sc td q nc cf S mem r) : td = r.2.2 0 := h.1.2.1.1
theorem RLQ.k (h : RLQ sc td q nc cf S mem r) : r.1 1 = nI nc ∧ 6 ≤ nc ∧ nc ≤ 12 := h.1.2.2.2.2.2.2.2.2
theorem RLQ.pb (h : RLQ sc td q nc cf S mem r) (hs : ¬ sc 0 = 0) : PB q.1 q.2.1 (r.2.2 0) (r.2.1 1) (r.2.1 2) (r.2.2 1) (r.2.2 2) := h.2.1.2.2.2.2 hs
theorem RLQ.q0 (h : RLQ sc td q nc cf S mem r) (hs : sc 0 = 0) : q = q_0 := h.2.1.2.2.2.1 hs
theorem RLQ.qc (h : RLQ sc td q nc cf S mem r) : ∃ T, QC q T ∧ sc 2 = nI T := h.2.1.2.2.1
theorem RLQ.on (h : RLQ sc td q nc cf S mem r) {p : Nat} (hp : q.1 p ≠ 0) : ¬ sc 0 = 0 := fun z => by
  rw [h.q0 z] at hp
  exact hp rfl
theorem RLQ.tu2 (h : RLQ sc td q nc cf S mem r) {p : Nat} (hp : q.1 p ≠ 0) (hu : 2 ≤ q.2.1 p) (hp2 : p < 256) : ∃ c, c < nc ∧ q.2.1 p = 2 + c ∧ q.1 p = r.2.1 8 c + 1 ∧ R_sl S r (r_ob r c) p := by
  have e := tu_of hp
  obtain ⟨c, h1, h2, h3, h4⟩ := h.t.1 p hp2 (by omega)
  have e2 := tu_pos (q := q) (p := p) (by omega)
  exact ⟨c, h1, by omega, by omega, h4⟩
theorem RLQ.X (h : RLQ sc td q nc cf S mem r) : X_ok nc q cf S (r.2.1 7) (r.2.1 8) (r_ob r) := by
  refine ⟨h.bq.1.1, h.bq.1.2, fun p hp ho => ?_, fun c hc => ?_, h.t.2.1, h.k.2.1, h.k.2.2, fun c hc => ?_⟩
  · have h1 := (h.pb (h.on ho)).1 p hp ho
    exact bk_end _ (by omega) p hp h1.2.1
  · obtain ⟨⟨a0, -, -, a3, a4, a5⟩, ⟨b1, b2, b3, b4, b5, -⟩, -⟩ := h.c c hc
    exact ⟨a0, a3, a4, a5, b1, b2, b3, b4, b5⟩
  · obtain ⟨-, hk, -, -, -, hE⟩ := h.c c hc
    rcases hE with hE | ⟨E, e1, e2, e3, e4⟩
    · exact Or.inl hE
    · obtain ⟨c', g1, g2, g3, j, rr, f, w, g4, g5⟩ := h.t.1 E e1 (by omega)
      have e5 := (tu_pos (q := q) (p := E) (by omega)).1
      exact Or.inr ⟨E, j, rr, _, _, f, w, e1, e2, g4, by have := hk.2.2.2.1; omega, by omega⟩
theorem has_at {f : Nat → Nat} {b k : Nat} : ∀ (n j : Nat), r_has f b k n j = true ↔ ∃ i, j ≤ i ∧ i < j + n ∧ f (b + i) = k := by
  intro n
  induction n with
  | zero => intro j; exact ⟨fun h => (by cases h), fun ⟨i, h1, h2, _⟩ => (by omega)⟩
  | succ n ih =>
    intro j
    unfold r_has
    rw [Bool.or_eq_true, decide_eq_true_iff, ih]
    constructor
    · rintro (h | ⟨i, h1, h2, h3⟩)
      · exact ⟨j, by omega, by omega, h⟩
      · exact ⟨i, by omega, by omega, h3⟩
    · rintro ⟨i, h1, h2, h3⟩
      by_cases e : i = j
      · subst e; exact Or.inl h3
      · exact Or.inr ⟨i, by omega, by omega, h3⟩
theorem R_sl.has {ob p : Nat} (h : R_sl S r ob p) : ∃ j rr f w, S p = some (j, rr, r.2.1 4 p, ob, f, w) ∧ ∀ i, i < ob → (lb w i = true ↔ ¬ r_has (r.2.1 3) (64 * p) i (r.2.1 4 p) 0 = true) := by
  obtain ⟨j, rr, f, w, h1, h2, h3, h4, h5, h6⟩ := h
  refine ⟨j, rr, f, w, h1, fun i hi => ?_⟩
  rw [h5 i hi, has_at]
  constructor
  · rintro g ⟨k, k1, k2, k3⟩
    exact g k (by omega) (by rw [(h3 k (by omega)).1]; exact k3)
  · intro g k hk e
    exact g ⟨k, by omega, by omega, by rw [← (h3 k hk).1]; exact e⟩
theorem R_sl.lt {ob p i : Nat} (h : R_sl S r ob p) (hi : i < ob) (hn : ¬ r_has (r.2.1 3) (64 * p) i (r.2.1 4 p) 0 = true) : r.2.1 4 p + 1 ≤ ob := by
  obtain ⟨j, rr, f, w, h1, h2⟩ := h.has
  obtain ⟨j', rr', f', w', g1, g2, g3, g4, g5, g6⟩ := h
  rw [h1] at g1
  cases g1
  have h3 := (h2 i hi).mpr hn
  have h4 := r_sum_sx (g := gB w) ob hi
  rw [show gB w i = 1 from if_pos h3] at h4
  omega
theorem RLQ.W (h : RLQ sc td q nc cf S mem r) : r_wf r nc := by
  refine ⟨⟨h.bq.2.1.1, h.bq.2.1.2, h.t.2.2.1, h.t.2.2.2⟩, fun c hc => ?_, h.k, fun p hp hf => ?_, fun a P ha hsa => ?_, fun p c hp hc hsl => ?_, fun c hc h0 => ?_⟩
  · obtain ⟨-, ⟨b1, b2, b3, b4, b5, -⟩, -⟩ := h.c c hc
    exact ⟨b1, b2, b3, b4, b5⟩
  · have hs : ¬ r.1 0 = 0 := (of_decide_eq_true hf).1
    have hb := h.pb (by rw [h.st]; exact hs)
    have ho := (hb.fi hs hp).mp hf
    have := hb.1 p hp ho
    rw [this.2.2.2.1]
    exact bk_mod.mp this.2.1
  · obtain ⟨a', ha', hae, hs, hus, hPe, htk, hco⟩ := r_sa_some hsa
    have haa : a = a' := (nI_eq (by omega) (by omega)).mp hae
    subst haa
    have hb := h.pb (by rw [h.st]; exact hs)
    obtain ⟨b1, b2, b3⟩ := hb.2 (a / 64) (by omega) hus
    rw [← hPe] at b1 b2 b3
    have hle := bk_le (q.1 P - 1) (a / 64)
    have hA := hb.1 P b1 b2
    have hu2 : 2 ≤ q.2.1 P := by
      rw [hA.2.2.2.2.2] at hco
      rcases Nat.lt_or_ge (q.2.1 P) 2 with z | z
      · rw [if_pos (by omega)] at hco
        exact absurd hco (by decide)
      · exact z
    obtain ⟨c, c1, c2, c3, c4⟩ := h.tu2 b2 hu2 b1
    refine ⟨b1, (hb.fi hs b1).mpr b2, by omega, c, c1, ?_, fun hfob => ?_⟩
    · rw [hA.2.2.2.2.2, if_neg (by omega), c2, Nat.add_sub_cancel_left]
    · unfold r_fob at hfob
      split at hfob
      · rename_i hix
        split at hfob
        · exact absurd hfob (by decide)
        · rename_i hh
          exact c4.lt hix.2 hh
      · exact absurd hfob (by decide)
  · have hs : ¬ r.1 0 = 0 := (of_decide_eq_true (of_decide_eq_true hsl).1).1
    have hb := h.pb (by rw [h.st]; exact hs)
    have h12 := h.k.2.2
    obtain ⟨g1, g2⟩ := (hb.sl hs hp (h.bq.1.2 p) (by omega)).mp hsl
    obtain ⟨c', c1, c2, c3, c4⟩ := h.tu2 g1 (by omega) hp
    rw [show c' = c by omega] at c4
    obtain ⟨_, _, _, _, -, g3, -⟩ := c4
    exact g3
  · obtain ⟨-, hk, -, -, h8, hE⟩ := h.c c hc
    rw [h8] at hE
    rcases hE with hE | ⟨E, e1, e2, e3, e4⟩
    · rw [hE] at h0
      exact absurd h0 (by decide)
    · have e5 := tu_pos (q := q) (p := E) (by omega)
      have hb := h.pb (h.on e5.1)
      have hA := hb.1 E e1 e5.1
      refine ⟨E, e1, e2, by have := hk.2.2.2.1; omega, ?_⟩
      rw [hA.2.2.2.1]
      exact bk_mod.mp hA.2.1
end
