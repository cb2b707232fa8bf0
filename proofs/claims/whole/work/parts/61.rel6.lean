theorem ka_s {q : q_T} {P c : Nat} (h : tu q P = 2 + c) : c_ka q P = c := by
  have := (tu_pos (q := q) (p := P) (by omega)).2.1
  unfold c_ka
  rw [this, h, if_pos (by omega), Nat.add_sub_cancel_left]
theorem ka_b {q : q_T} {P : Nat} (h : tu q P = 1) : c_ka q P = 6 + (q.1 P - 1) := by
  have := (tu_pos (q := q) (p := P) (by omega)).2.1
  unfold c_ka
  rw [this, h, if_neg (by omega)]
theorem fst_0 (P : Nat) : ∀ n k, q_fst (fun _ => 0) P n k = none := by
  intro n
  induction n with
  | zero => intro k; rfl
  | succ n ih =>
    intro k
    unfold q_fst
    rw [if_neg (by omega)]
    exact ih (k + 1)
theorem fob_0 {r : r_T} {P a c : Nat} (h : r_fob r P a c = 0) : (a - 64 * P) % r.2.1 7 c = 0 ∧ (a - 64 * P) / r.2.1 7 c < r_ob r c ∧ ¬ r_has (r.2.1 3) (64 * P) ((a - 64 * P) / r.2.1 7 c) (r.2.1 4 P) 0 = true := by
  unfold r_fob at h
  split at h
  · rename_i h1
    split at h
    · exact absurd h (by decide)
    · rename_i h2
      exact ⟨h1.1, h1.2, h2⟩
  · exact absurd h (by decide)
section
variable {sc td : Nat → Int32} {q : q_T} {nc : Nat} {cf : Nat → Nat → Int32} {S : Nat → Option s_T} {mem : Nat → Nat} {r : r_T}
theorem RLQ.pgf (h : RLQ sc td q nc cf S mem r) (hs : ¬ sc 0 = 0) {k P : Nat} (hk : k ≤ 6) (ht : j_take sc q k = some P) : P < 256 ∧ tu q P = 0 ∧ tu (j_qcl sc q k 1) P = 1 ∧ to (j_qcl sc q k 1) P = k + 1 ∧ ∀ p, p ≠ P → tu (j_qcl sc q k 1) p = tu q p ∧ to (j_qcl sc q k 1) p = to q p := by
  have hco : (r_tks r k).2.2 2 = upd ((r_tks r k).2.2 2) P (if 1 ≤ 1 then -1 else nI (1 - 2)) := by
    have e : r_tk r k = some P := by rw [← (h.pg hs hk).1]; exact ht
    unfold r_tks
    rw [e]
    show upd _ P (-1) = upd (upd _ P (-1)) P _
    rw [upd_upd]
    rfl
  obtain ⟨g1, g2, g3, g4, g5, -⟩ := h.got hs hk ht (Nat.le_refl 1) (by omega) (r' := r_tks r k) rfl rfl rfl ((tks_SA r k 0 (by decide) (by decide)).2) rfl hco
  have e : j_qcl sc q k 1 = q_got q P k 1 := by unfold j_qcl; rw [ht]
  rw [e]
  have hf : ∀ p, tu (q_got q P k 1) p = va_up (tu q) P 1 p := g3 _
  have hf2 : ∀ p, to (q_got q P k 1) p = va_up (to q) P (k + 1) p := g3 _
  exact ⟨g4, g5, by rw [hf P, va_up_self], by rw [hf2 P, va_up_self], fun p hp => ⟨by rw [hf p, va_up_ne _ _ hp], by rw [hf2 p, va_up_ne _ _ hp]⟩⟩
/-- alloc -/
theorem RLQ.kind (h : RLQ sc td q nc cf S mem r) (hs : ¬ sc 0 = 0) {b : Nat} (hb2 : b ≤ 4096) {x : Int32} {sc' : Nat → Int32} {q' : q_T} {cf' : Nat → Nat → Int32} {S' : Nat → Option s_T} (hT : T_kind (r.2.1 7) (r.2.1 8) (r_ob r) sc q cf S (k_kf b 12 0) x sc' q' cf' S') :
    x = oI (r_alO r b) ∧ RLQ sc' td q' nc cf' S' mem (r_alS r b) ∧ (x = -1 ∨ ∃ t P, x = nI t ∧ DL q' S' (r_alS r b) nc t P ∧ c_ka q' P = k_cls b) ∧ (∀ p, tu q p ≠ 0 → tu q p ≠ 2 + k_cls b → tu q' p = tu q p ∧ to q' p = to q p ∧ S' p = S p) ∧ (∀ t, r_alO r b = some t → t < 2 ^ 31) := by
  rw [(k_same b (by omega)).1] at hT
  have hn6 := h.k.2.1
  have hk12 := k_cls_le (b := b)
  have hob : ∀ c, r_ob (r_alS r b) c = r_ob r c := fun c => by
    unfold r_ob
    rw [r_alS_na r b 7 (by decide), r_alS_na r b 8 (by decide)]
  rcases hT with ⟨h6, hT⟩ | ⟨h6, hx, rfl, rfl, rfl, rfl⟩
  · have e1 : r_alO r b = r_toO r (k_cls b) := if_pos h6
    have e2 : r_alS r b = r_toS r (k_cls b) := if_pos h6
    obtain ⟨g1, g2, g3, g4, g5⟩ := h.take hs (by omega) hT
    rw [e1]
    refine ⟨g1, by rw [e2]; exact g2, ?_, g4, g5⟩
    rcases g3 with g3 | ⟨P, i, j, rr, n, f, w, p1, p2, p3, p4, p5, p6⟩
    · exact Or.inl g3
    · refine Or.inr ⟨_, P, p2, ⟨?_, p1, Or.inl ⟨k_cls b, i, j, rr, n, f, w, h6, by omega, p4, ?_, ?_, ?_, p6⟩⟩, ka_s p4⟩
      · obtain ⟨k1, k2, k3, k4, k5, k6⟩ := (h.c (k_cls b) (by omega)).2.1
        have hpos := tu_pos (q := q') (p := P) (by omega)
        obtain ⟨c', c1, c2, c3, -⟩ := g2.t.1 P p1 (by omega)
        have hA := (g2.pb (g2.on hpos.1)).1 P p1 hpos.1
        have hend := bk_end _ (by omega) P p1 hA.2.1
        have hqo : q'.1 P - 1 = r.2.1 8 (k_cls b) := by
          rw [← hpos.2.2, c3, show c' = k_cls b by omega, r_toS_na r _ 8 (by decide), Nat.add_sub_cancel]
        rw [hqo] at hend
        have hdm : r_ob r (k_cls b) * r.2.1 7 (k_cls b) ≤ 64 * 2 ^ r.2.1 8 (k_cls b) := Nat.div_mul_le_self _ _
        have hil : (i + 1) * r.2.1 7 (k_cls b) ≤ r_ob r (k_cls b) * r.2.1 7 (k_cls b) := Nat.mul_le_mul_right _ p3
        rw [Nat.succ_mul] at hil
        omega
      · rw [r_alS_na r b 7 (by decide)]
      · rw [hob]; exact p3
      · rw [hob]; exact p5
  · have e1 : r_alO r b = (match r_tk r (k_cls b - 6) with
        | none => none
        | some P => some (64 * P)) := if_neg (by omega)
    have e2 : r_alS r b = r_tks r (k_cls b - 6) := if_neg (by omega)
    obtain ⟨g1, g2⟩ := h.pg hs (show k_cls b - 6 ≤ 6 by omega)
    rw [e1, e2, ← g1]
    rcases opt_cases (j_take sc q (k_cls b - 6)) with hj | ⟨P, hj⟩
    · rw [hj] at hx ⊢
      refine ⟨hx, g2, Or.inl hx, fun p _ _ => ?_, fun t ht => by cases ht⟩
      rw [show j_qcl sc q (k_cls b - 6) 1 = q by unfold j_qcl; rw [hj]]
      exact ⟨rfl, rfl, rfl⟩
    · obtain ⟨f1, f2, f3, f4, f5⟩ := h.pgf hs (by omega) hj
      rw [hj] at hx ⊢
      refine ⟨by rw [hx]; show nI (P * 64) = nI (64 * P); rw [Nat.mul_comm], g2, Or.inr ⟨P * 64, P, hx, ⟨by omega, f1, Or.inr ⟨f3, by omega⟩⟩, ?_⟩, fun p hp _ => ?_, fun t ht => by
        have ht : some _ = some t := ht
        injection ht with ht
        omega⟩
      · rw [ka_b f3]
        have := (tu_pos (q := j_qcl sc q (k_cls b - 6) 1) (p := P) (by omega)).2.2
        omega
      · have := f5 p (fun z => hp (by rw [z]; exact f2))
        exact ⟨this.1, this.2, rfl⟩
theorem RLQ.fo (h : RLQ sc td q nc cf S mem r) {x : Nat} (hx : x < 256) : j_fo q.1 (nI x) = if ¬ r.1 0 = 0 ∧ ¬ r.2.2 0 x = 0 then some (r.2.1 1 x) else none := by
  by_cases hs : r.1 0 = 0
  · rw [if_neg (fun z => z.1 hs), h.q0 (by rw [h.st]; exact hs)]
    unfold j_fo
    rw [if_pos (pg_in hx)]
    exact fst_0 _ _ _
  · rw [(h.pb (by rw [h.st]; exact hs)).fo hx]
    by_cases ht : r.2.2 0 x = 0
    · rw [if_pos ht, if_neg (fun z => z.2 ht)]
    · rw [if_neg ht, if_pos ⟨hs, ht⟩]
/-- an object's fault, both ways -/
theorem RLQ.wo2 (h : RLQ sc td q nc cf S mem r) {a P c : Nat} (ha : a < 16384) (hP : P < 256) (hu : tu q P = 2 + c) (hc : c < nc) (hfo : j_fo q.1 (nI (a / 64)) = some P) : c_wo2 q S (r.2.1 7) (r_ob r) c a = r_fob r P a c := by
  have h12 := h.k.2.2
  have hpos := tu_pos (q := q) (p := P) (by omega)
  obtain ⟨c', c1, c2, c3, c4⟩ := h.t.1 P hP (by omega)
  rw [show c' = c by omega] at c4
  obtain ⟨j, rr, f, w, s1, s2⟩ := c4.has
  have hPa := j_fo_le (by omega) hfo
  unfold c_wo2
  rw [hfo]
  dsimp only
  rw [s1]
  dsimp only
  rw [if_pos ((uf_iff hP (h.bq.1.2 P) (by omega)).mpr ⟨hpos.1, by omega⟩)]
  unfold j_ix r_fob
  rw [Nat.mul_comm P 64]
  by_cases e : (a - 64 * P) % r.2.1 7 c = 0 ∧ (a - 64 * P) / r.2.1 7 c < r_ob r c
  · rw [if_pos e, if_pos e]
    dsimp only
    have h9 := s2 _ e.2
    by_cases e2 : lb w ((a - 64 * P) / r.2.1 7 c) = true
    · rw [if_pos e2, if_neg (h9.mp e2)]
    · rw [if_neg e2, if_pos (Classical.byContradiction (fun z => e2 (h9.mpr z)))]
  · rw [if_neg e, if_neg e]
theorem RLQ.inb (h : RLQ sc td q nc cf S mem r) {a P : Nat} (hP : P < 256) (hu : tu q P ≠ 0) (h1 : 64 * P ≤ a) (h2 : a < 64 * (P + 2 ^ (q.1 P - 1))) (ha : a < 16384) : ¬ r.1 0 = 0 ∧ ¬ r.2.2 0 (a / 64) = 0 ∧ r.2.1 1 (a / 64) = P ∧ j_fo q.1 (nI (a / 64)) = some P := by
  have hpos := tu_pos hu
  have hs := h.on hpos.1
  have hA := (h.pb hs).1 P hP hpos.1
  have hx := hA.2.2.1 (a / 64) (by omega) ((bk_iff hA.2.1 _).mpr ⟨by omega, by omega⟩)
  have hs' : ¬ r.1 0 = 0 := by rw [← h.st]; exact hs
  refine ⟨hs', hx.1, hx.2, ?_⟩
  rw [h.fo (by omega), if_pos ⟨hs', hx.1⟩, hx.2]
theorem RLQ.ext (h : RLQ sc td q nc cf S mem r) {a P : Nat} (hD : DL q S r nc a P) : 64 * P ≤ a ∧ a + k_bytes (c_ka q P) ≤ 64 * (P + 2 ^ (q.1 P - 1)) ∧ a % 8 = 0 ∧ P + 2 ^ (q.1 P - 1) ≤ 256 ∧ tu q P ≠ 0 := by
  obtain ⟨ha, hP, hD⟩ := hD
  have hut : tu q P ≠ 0 := by rcases hD with ⟨c, _, _, _, _, _, _, -, -, h1, -⟩ | ⟨h1, -⟩ <;> omega
  have hpos := tu_pos hut
  have hA := (h.pb (h.on hpos.1)).1 P hP hpos.1
  have hend := bk_end _ (by omega) P hP hA.2.1
  rcases hD with ⟨c, i, j, rr, n, f, w, d1, d2, d3, d4, d5, d6, d7⟩ | ⟨d1, d2⟩
  · obtain ⟨k1, k2, k3, k4, k5, k6⟩ := (h.c c d2).2.1
    obtain ⟨c', c1, c2, c3, -⟩ := h.t.1 P hP (by omega)
    have hqo : q.1 P - 1 = r.2.1 8 c := by rw [← hpos.2.2, c3, show c' = c by omega, Nat.add_sub_cancel]
    have hdm : r_ob r c * r.2.1 7 c ≤ 64 * 2 ^ r.2.1 8 c := Nat.div_mul_le_self _ _
    have hil : (i + 1) * r.2.1 7 c ≤ r_ob r c * r.2.1 7 c := Nat.mul_le_mul_right _ d5
    rw [Nat.succ_mul] at hil
    have hst := k6 d1
    have hkb : k_bytes (c_ka q P) = r.2.1 7 c := by rw [ka_s d3, hst]; exact if_pos d1
    rw [hqo] at hend
    rw [hkb, hqo]
    refine ⟨by omega, by omega, ?_, hend, hut⟩
    have h8 : i * r.2.1 7 c = 8 * (i * 2 ^ c) := by rw [hst, Nat.mul_left_comm]
    omega
  · have hkb : k_bytes (c_ka q P) = 64 * 2 ^ (q.1 P - 1) := by
      rw [ka_b d1]
      unfold k_bytes
      rw [if_neg (by omega), Nat.add_sub_cancel_left]
    rw [hkb]
    exact ⟨by omega, by omega, by omega, hend, hut⟩
theorem RLQ.sa (h : RLQ sc td q nc cf S mem r) {a P c : Nat} (ha : a < 16384) (hP : P < 256) (hu : tu q P = 2 + c) (hs : ¬ r.1 0 = 0) (hus : ¬ r.2.2 0 (a / 64) = 0) (hfo : r.2.1 1 (a / 64) = P) : r_sa r (nI a) = some P ∧ r.2.2 2 P = nI c := by
  have hpos := tu_pos (q := q) (p := P) (by omega)
  have hA := (h.pb (h.on hpos.1)).1 P hP hpos.1
  have h13 := h.bq.1.2 P
  have hco : r.2.2 2 P = nI c := by
    rw [hA.2.2.2.2.2, if_neg (by omega), hpos.2.1, hu, Nat.add_sub_cancel_left]
  have htk : r.2.2 1 P = 1 := by rw [hA.2.2.2.2.1, if_neg (by omega)]
  refine ⟨?_, hco⟩
  unfold r_sa
  rw [nI_clamp (by omega), hfo, if_pos ⟨hs, in_nI (M := 16383) (by decide) (by omega), hus⟩, htk, hco, if_pos ⟨by decide, nI_pos' (by omega)⟩]
theorem RLQ.wp (h : RLQ sc td q nc cf S mem r) {p : Nat} (hp : p < 256) : j_wp q.1 q.2.1 (nI p) = r_fp r (nI p) ∧ (r_fp r (nI p) = 0 → tu q p = 1) := by
  have h13 := h.bq.1.2 p
  by_cases hs : r.1 0 = 0
  · have hq := h.q0 (by rw [h.st]; exact hs)
    have e1 : r_fp r (nI p) = -2 := by
      unfold r_fp
      rw [r_fi_nI hp, show r_first r p = false from decide_eq_false (fun z => z.1 hs)]
      rfl
    have e2 : j_wp q.1 q.2.1 (nI p) = -2 := by
      have e3 : j_uf q.1 q.2.1 (nI p) = -1 := by
        unfold j_uf
        rw [hq]
        exact if_neg (fun z => z.2 rfl)
      unfold j_wp
      rw [e3]
      rfl
    rw [e1, e2]
    exact ⟨rfl, fun z => absurd z (by decide)⟩
  · have hb := h.pb (by rw [h.st]; exact hs)
    by_cases ho : q.1 p = 0
    · have e1 : r_fp r (nI p) = -2 := by
        unfold r_fp
        rw [r_fi_nI hp, if_neg (fun z => (hb.fi hs hp).mp z ho)]
      have e2 : j_wp q.1 q.2.1 (nI p) = -2 := by
        have e3 : j_uf q.1 q.2.1 (nI p) = -1 := by
          unfold j_uf
          rw [cl_nI hp]
          exact if_neg (fun z => z.2 ho)
        unfold j_wp
        rw [e3]
        rfl
      rw [e1, e2]
      exact ⟨rfl, fun z => absurd z (by decide)⟩
    · have hA := hb.1 p hp ho
      have e3 : j_uf q.1 q.2.1 (nI p) = nI (q.2.1 p) := j_uf_at hp ho
      have e4 := tu_of (q := q) ho
      unfold j_wp r_fp
      rw [e3, r_fi_nI hp, if_pos ((hb.fi hs hp).mpr ho), cl_nI hp, hA.2.2.2.2.1, hA.2.2.2.2.2]
      rcases (show q.2.1 p = 0 ∨ q.2.1 p = 1 ∨ 2 ≤ q.2.1 p by omega) with z | z | z
      · rw [z, if_pos (show nI 0 = (0 : Int32) from rfl)]
        simp
      · rw [z, e4, z]
        simp
        decide
      · have e5 : (if q.2.1 p = 0 then (0 : Int32) else 1) = 1 := if_neg (by omega)
        have e6 : (if q.2.1 p ≤ 1 then (-1 : Int32) else nI (q.2.1 p - 2)) = nI (q.2.1 p - 2) := if_neg (by omega)
        rw [e5, e6, if_neg (fun y => by have := (nI_eq (b := 0) (by omega) (by decide)).mp y; omega), if_neg (fun y => by have := (nI_eq (b := 1) (by omega) (by decide)).mp y; omega), if_neg (show ¬ (1 : Int32) = 0 by decide), if_pos (show (0 : Int32) ≤ nI (q.2.1 p - 2) from nI_pos' (by omega))]
        exact ⟨rfl, fun y => absurd y (by decide)⟩
end
