theorem mcp_eq {mem : Nat → Nat} {a t : Nat} : ∀ (n k : Nat), (a + (n + k) ≤ t ∨ t + (n + k) ≤ a) → r_mcp (q_cpm mem a t k) a t n k = q_cpm mem a t (n + k) := by
  intro n
  induction n with
  | zero => intro k _; rw [Nat.zero_add]; rfl
  | succ n ih =>
    intro k h
    show r_mcp (va_up (q_cpm mem a t k) (t + k) (q_cpm mem a t k (a + k))) a t n (k + 1) = _
    rw [q_cpm_src (by omega) (by omega), q_cpm_step, ih (k + 1) (by omega)]
    congr 1
    omega
theorem mcp_0 {mem : Nat → Nat} {a t n : Nat} (h : a + n ≤ t ∨ t + n ≤ a) : r_mcp mem a t n 0 = q_cpm mem a t n := by
  have h1 := mcp_eq (mem := mem) (a := a) (t := t) n 0 h
  have h2 : q_cpm mem a t 0 = mem := by
    funext z
    unfold q_cpm
    rw [if_neg (by omega)]
  rw [h2] at h1
  exact h1
theorem q_open_b (td : Nat → Int32) : ∀ (n p : Nat) (q : q_T), (∀ p, q.1 p ≤ 7) → (∀ p, q.2.1 p ≤ 13) → (∀ x, (q_open td n p q).1 x ≤ 7) ∧ ∀ x, (q_open td n p q).2.1 x ≤ 13 := by
  intro n
  induction n with
  | zero => intro p q h1 h2; exact ⟨h1, h2⟩
  | succ n ih =>
    intro p q h1 h2
    unfold q_open
    split
    · exact ih _ _ h1 h2
    · have := q_join_ok 6 q p 0 (by omega) h1 h2
      exact ih _ _ this.1 this.2
theorem tell_all : ∀ (n p : Nat) (td : Nat → Int32) (v : Int32), p + n ≤ 256 → (∀ p, td p = 0 ∨ td p = 1) → v = nI (r_sum (gU td) 256) → (q_tell n p (td, v)).1 = r_tell n p td ∧ (∀ x, r_tell n p td x = 0 ∨ r_tell n p td x = 1) ∧ (q_tell n p (td, v)).2 = nI (r_sum (gU (r_tell n p td)) 256) := by
  intro n
  induction n with
  | zero => intro p td v _ h hv; exact ⟨rfl, h, hv⟩
  | succ n ih =>
    intro p td v hp h hv
    have h2 : ∀ x, upd td p 1 x = 0 ∨ upd td p 1 x = 1 := fun x => by
      unfold upd
      split
      · exact Or.inr rfl
      · exact h x
    show (q_tell n (p + 1) (if td p = 0 then (upd td p 1, v + 1) else (td, v))).1 = r_tell n (p + 1) (upd td p 1) ∧ (∀ x, r_tell n (p + 1) (upd td p 1) x = 0 ∨ r_tell n (p + 1) (upd td p 1) x = 1) ∧ (q_tell n (p + 1) (if td p = 0 then (upd td p 1, v + 1) else (td, v))).2 = nI (r_sum (gU (r_tell n (p + 1) (upd td p 1))) 256)
    by_cases e : td p = 0
    · rw [if_pos e]
      refine ih (p + 1) _ _ (by omega) h2 ?_
      have hg : gU (upd td p 1) = va_up (gU td) p 1 := by
        funext x
        unfold gU
        by_cases e2 : x = p
        · rw [e2, upd_self, va_up_self]; rfl
        · rw [upd_ne _ _ e2, va_up_ne _ _ e2]
      rw [hg, sum_up (by omega), sx_id (show gU td p = 0 from if_pos e), hv]
      exact nI_add _ 1
    · rw [if_neg e]
      have e3 : upd td p 1 = td := by
        funext x
        unfold upd
        split
        · rename_i hx
          rw [hx]
          rcases h p with z | z
          · exact absurd z e
          · exact z.symm
        · rfl
      rw [e3]
      exact ih (p + 1) td v (by omega) h hv
theorem k_strb : ∀ m, m < 7 → ∀ b, b < 1025 → k_str b (2 ^ m) ≤ 1024 := by decide +kernel
theorem k_obb : ∀ t, t < 1025 → 1 ≤ t → 1 ≤ 64 * 2 ^ q_so t 4 0 / t ∧ 64 * 2 ^ q_so t 4 0 / t ≤ 64 := by decide +kernel
theorem al_and : ∀ a, a < 65 → 1 ≤ a → (nI a &&& (nI a - 1) = 0 ↔ bc_F (nI a) = 1) := by decide +kernel
theorem cr_sl {r : r_T} {q : q_T} {p c : Nat} (hs : r.1 0 = 0) : r_slab r p c = false := decide_eq_false (fun z => (of_decide_eq_true z.1).1 hs)
section
variable {sc td : Nat → Int32} {q : q_T} {nc : Nat} {cf : Nat → Nat → Int32} {S : Nat → Option s_T} {mem : Nat → Nat} {r : r_T}
theorem RLQ.dis (h : RLQ sc td q nc cf S mem r) {P P' : Nat} (hP : P < 256) (hP' : P' < 256) (hu : tu q P ≠ 0) (hu' : tu q P' ≠ 0) (hne : P ≠ P') : P + 2 ^ (q.1 P - 1) ≤ P' ∨ P' + 2 ^ (q.1 P' - 1) ≤ P := by
  have h1 := tu_pos hu
  have h2 := tu_pos hu'
  have hb := h.pb (h.on h1.1)
  have hA := hb.1 P hP h1.1
  have hA' := hb.1 P' hP' h2.1
  rcases Nat.lt_or_ge P P' with z | z
  · left
    rcases Nat.lt_or_ge P' (P + 2 ^ (q.1 P - 1)) with y | y
    · have g1 := (hA.2.2.1 P' hP' ((bk_iff hA.2.1 P').mpr ⟨by omega, y⟩)).2
      have g2 := (hA'.2.2.1 P' hP' hA'.2.1).2
      omega
    · exact y
  · right
    rcases Nat.lt_or_ge P (P' + 2 ^ (q.1 P' - 1)) with y | y
    · have g1 := (hA'.2.2.1 P hP ((bk_iff hA'.2.1 P).mpr ⟨by omega, y⟩)).2
      have g2 := (hA.2.2.1 P hP hA.2.1).2
      omega
    · exact y
theorem RLQ.rsz (h : RLQ sc td q nc cf S mem r) {a P b : Nat} (hD : DL q S r nc a P) (hb2 : b ≤ 4096) (hne : ¬ c_ka q P = k_kf b 12 0) {x : Int32} {sc' : Nat → Int32} {q' : q_T} {cf' : Nat → Nat → Int32} {S' : Nat → Option s_T} (hT : T_kind (r.2.1 7) (r.2.1 8) (r_ob r) sc q cf S (k_kf b 12 0) x sc' q' cf' S') :
    x = oI (r_alO r b) ∧ RLQ sc' td q' nc cf' S' mem (r_alS r b) ∧ DL q' S' (r_alS r b) nc a P ∧ c_ka q' P = c_ka q P ∧ (r_alS r b).2.1 7 = r.2.1 7 ∧ (r_alS r b).2.1 8 = r.2.1 8 ∧ r_ob (r_alS r b) = r_ob r ∧
    (x = -1 ∨ ∃ t, x = nI t ∧ t < 16384 ∧ t % 8 = 0 ∧ t + b ≤ 16384 ∧ t + min (k_bytes (c_ka q P)) b ≤ 16384 ∧ (a + min (k_bytes (c_ka q P)) b ≤ t ∨ t + min (k_bytes (c_ka q P)) b ≤ a)) ∧ (∀ t, r_alO r b = some t → t < 2 ^ 31) := by
  have hx := h.ext hD
  have hs := h.on (tu_pos hx.2.2.2.2).1
  have hks := k_same b (by omega)
  obtain ⟨g1, g2, g3, g4, g5⟩ := h.kind hs hb2 hT
  rw [hks.1] at hne
  have e7 := r_alS_na r b 7 (by decide)
  have e8 := r_alS_na r b 8 (by decide)
  have hob : r_ob (r_alS r b) = r_ob r := by
    funext c
    unfold r_ob
    rw [e7, e8]
  obtain ⟨ha, hP, hD⟩ := hD
  have hfr : tu q' P = tu q P ∧ to q' P = to q P ∧ S' P = S P := g4 P hx.2.2.2.2 (by
    rcases hD with ⟨c, _, _, _, _, _, _, d1, -, d3, -⟩ | ⟨d1, -⟩
    · rw [ka_s d3] at hne; omega
    · omega)
  have hka : c_ka q' P = c_ka q P := by
    rcases hD with ⟨c, _, _, _, _, _, _, d1, -, d3, -⟩ | ⟨d1, -⟩
    · rw [ka_s d3, ka_s (hfr.1.trans d3)]
    · rw [ka_b d1, ka_b (hfr.1.trans d1), ← (tu_pos (q := q) (p := P) (by omega)).2.2, ← (tu_pos (q := q') (p := P) (by omega)).2.2, hfr.2.1]
  have hD' : DL q' S' (r_alS r b) nc a P := by
    refine ⟨ha, hP, ?_⟩
    rw [hfr.1, hfr.2.2, e7, hob]
    exact hD
  refine ⟨g1, g2, hD', hka, e7, e8, hob, ?_, g5⟩
  rcases g3 with g3 | ⟨t, P', t1, t2, t3⟩
  · exact Or.inl g3
  · right
    have hxa := g2.ext hD'
    have hxt := g2.ext t2
    rw [t3] at hxt
    rw [hka] at hxa
    have hPP : P ≠ P' := fun z => hne (by rw [← hka, z]; exact t3)
    have hd := g2.dis hP t2.2.1 hxa.2.2.2.2 hxt.2.2.2.2 hPP
    exact ⟨t, t1, t2.1, hxt.2.2.1, by omega, by omega, by omega⟩
theorem RLQ.setm (h : RLQ sc td q nc cf S mem r) (m : Nat → Nat) : RLQ sc td q nc cf S m (r_setm r m) := ⟨h.n, h.bq, h.t, h.c, (by show m = va_up r.2.1 0 m 0; rw [va_up_self])⟩
/-- start -/
theorem RLQ.start (h : RLQ sc td q nc cf S mem r) (hst : sc 0 = 0) : RLQ (upd (upd sc 0 1) 2 (sc 1)) td (q_open td 256 0 q) nc cf S mem (r_st (r.2.2 0) 256 0 (upd r.1 0 1, r.2)) := by
  have hq := h.q0 hst
  have htd := h.us
  have ho : OI td 256 (q_open td 256 0 q) := by
    refine open_all td 256 0 q rfl ?_
    rw [hq]
    refine ⟨⟨fun _ => 0, fun _ => 0, fun _ => 0, fun _ => 0, fun f _ ho => absurd rfl ho, fun x _ ht => absurd (if_neg (by omega)) ht⟩, ⟨fun j hj => ?_, ?_⟩, fun _ => rfl, fun g k _ _ h1 _ => ?_⟩
    · rw [show r_sum (cF q_0.1 q_0.2.1 j) 256 = 0 from r_sum_0 256 (fun p _ => if_neg (fun z => absurd z.1 (Nat.succ_ne_zero j).symm))]
      rfl
    · exact r_sum_0 256 (fun p _ => if_neg (fun z => z.1 rfl))
    · exact absurd h1 (Nat.succ_ne_zero k).symm
  obtain ⟨p', hp', hr⟩ := st_all td 256 0 (upd r.1 0 1, r.2) (by omega) (fun x hx => by omega)
  obtain ⟨s1, s2, s3⟩ := start_all (q := q_open td 256 0 q) (r := r_st td 256 0 (upd r.1 0 1, r.2)) ho hp' hr
  rw [← htd]
  have hna := st_na td 256 0 (upd r.1 0 1, r.2)
  have hb := st_b td 256 0 (upd r.1 0 1, r.2) h.bq.2.1.1 h.bq.2.1.2
  have hSA : SA r (r_st td 256 0 (upd r.1 0 1, r.2)) := fun i h1 h2 => hna.2 i h1 h2
  have e0 : (r_st td 256 0 (upd r.1 0 1, r.2)).2.2 0 = td := by rw [(hSA 0 (by decide) (by decide)).2]; exact htd.symm
  have e1 : (r_st td 256 0 (upd r.1 0 1, r.2)).1 = upd r.1 0 1 := hna.1
  have htu : ∀ G p, tg G q p = 0 := fun G p => by rw [hq]; exact if_pos (Or.inl rfl)
  obtain ⟨⟨n0, n0'⟩, ⟨n1, n1'⟩, n2, n3, n4, n5, n6, n7, n8⟩ := h.n
  refine h.blk (P := 0) (v := 0) (o := 0) ?_ ?_ hSA (fun p => ?_) (fun p => ?_) (by omega) (by rw [show tu q 0 = 0 from htu _ 0]; omega) (by omega)
  · refine ⟨⟨?_, ?_⟩, ⟨e0.symm, n1'⟩, ?_, ?_, ?_, ?_, ?_, ?_, ?_, n8.2⟩
    · rw [e1]; rfl
    · exact Or.inr rfl
    · exact n2
    · rw [e1]; exact n3
    · rw [e1]; exact n4
    · rw [e1]; exact n5
    · rw [e1]; exact n6
    · rw [e1]; exact n7
    · rw [e1]; exact n8.1
  · refine ⟨q_open_b td 256 0 q h.bq.1.1 h.bq.1.2, hb, ⟨_, s2, n2⟩, fun z => ?_, fun _ => ?_⟩
    · exact absurd (show (1 : Int32) = 0 from z) (by decide)
    · rw [e0]; exact s1
  · rw [show tu (q_open td 256 0 q) p = 0 from s3 _ p]
    show 0 = va_up (tu q) 0 0 p
    unfold va_up
    split
    · rfl
    · exact (htu _ p).symm
  · rw [show to (q_open td 256 0 q) p = 0 from s3 _ p]
    show 0 = va_up (to q) 0 0 p
    unfold va_up
    split
    · rfl
    · exact (htu _ p).symm
/-- usable -/
theorem RLQ.tell (h : RLQ sc td q nc cf S mem r) {a b : Nat} (hab : a ≤ b) (hb : b < 256) (hst : sc 0 = 0) : RLQ (upd sc 1 (q_tell (b + 1 - a) a (td, sc 1)).2) (q_tell (b + 1 - a) a (td, sc 1)).1 q nc cf S mem (r.1, r.2.1, va_up r.2.2 0 (r_tell (b + 1 - a) a (r.2.2 0))) := by
  obtain ⟨⟨⟨n0, n0'⟩, ⟨n1, n1'⟩, n2, n3, n4, n5, n6, n7, n8⟩, ⟨b1, b2, b3, b4, b5⟩, ht, hc, hm⟩ := h
  obtain ⟨t1, t2, t3⟩ := tell_all (b + 1 - a) a td (sc 1) (by omega) n1' n2
  refine ⟨⟨⟨n0, n0'⟩, ⟨?_, ?_⟩, ?_, n3, n4, n5, n6, n7, n8⟩, ⟨b1, b2, b3, b4, fun z => absurd hst z⟩, ht, hc, hm⟩
  · rw [t1, n1]
    exact (va_up_self r.2.2 0 (r_tell (b + 1 - a) a (r.2.2 0))).symm
  · rw [t1]; exact t2
  · rw [upd_self, t3, t1]
theorem RLQ.arm (h : RLQ sc td q nc cf S mem r) {x : Int32} (hx : 0 ≤ x ∧ x ≤ 100) : RLQ (upd sc 7 x) td q nc cf S mem (upd r.1 2 x, r.2) := by
  obtain ⟨⟨⟨n0, n0'⟩, n1, n2, n3, n4, n5, n6, n7, n8⟩, hq, ht, hc, hm⟩ := h
  exact ⟨⟨⟨n0, n0'⟩, n1, n2, n3, n4, n5, n6, ⟨rfl, Or.inr hx⟩, n8⟩, hq, ht, hc, hm⟩
/-- cache -/
theorem RLQ.newc (h : RLQ sc td q nc cf S mem r) (hnc : nc < 12) {b a : Nat} (hb : 1 ≤ b) (hb2 : b ≤ 1024) (ha : 1 ≤ a) (ha2 : a ≤ 64) (hbc : bc_F (nI a) = 1) : RLQ sc td q (nc + 1) (va_up cf nc (k_cf nc b a)) S mem (r_ac r nc b a) := by
  have hn6 := h.k.2.1
  have hs1 := k_str_pos (b := b) (a := a) hb ha
  have hs2 : k_str b a ≤ 1024 := by
    obtain ⟨m, hm, e⟩ := (bc_pow a (by omega)).mp hbc
    rw [e]
    exact k_strb m hm b (by omega)
  have hobb := k_obb (k_str b a) (by omega) hs1
  have hso := q_so_le (t := k_str b a) 4 0
  have kk : ∀ i c, c ≠ nc → 5 ≤ i → i ≤ 8 → (r_ac r nc b a).2.1 i c = r.2.1 i c := fun i c hcn i1 i2 => by
    rcases (show i = 5 ∨ i = 6 ∨ i = 7 ∨ i = 8 by omega) with rfl | rfl | rfl | rfl
    · exact va_up_ne _ _ hcn
    · exact va_up_ne _ _ hcn
    · exact va_up_ne _ _ hcn
    · exact va_up_ne _ _ hcn
  have hob : ∀ c, c ≠ nc → r_ob (r_ac r nc b a) c = r_ob r c := fun c hcn => by
    unfold r_ob
    rw [kk 7 c hcn (by decide) (by decide), kk 8 c hcn (by decide) (by decide)]
  have k7 : (r_ac r nc b a).2.1 7 nc = k_str b a := va_up_self _ _ _
  have k8 : (r_ac r nc b a).2.1 8 nc = q_so (k_str b a) 4 0 := va_up_self _ _ _
  have hobn : r_ob (r_ac r nc b a) nc = 64 * 2 ^ q_so (k_str b a) 4 0 / k_str b a := by
    unfold r_ob
    rw [k7, k8]
  obtain ⟨⟨⟨n0, n0'⟩, n1, n2, n3, n4, n5, n6, n7, n8⟩, hq, ⟨t1, t2⟩, hc, hm⟩ := h
  refine ⟨⟨⟨n0, n0'⟩, n1, n2, n3, n4, n5, n6, n7, rfl, by omega, by omega⟩, hq, ⟨fun p hp h2 => ?_, t2⟩, fun c hcn => ?_, hm⟩
  · obtain ⟨c, c1, c2, c3, c4⟩ := t1 p hp h2
    refine ⟨c, by omega, c2, ?_, ?_⟩
    · rw [kk 8 c (by omega) (by decide) (by decide)]; exact c3
    · rw [hob c (by omega)]
      exact c4
  · by_cases e : c = nc
    · subst e
      rw [va_up_self]
      have hz : ∀ p, p < 256 → tu q p ≠ 2 + c := fun p hp z => by
        obtain ⟨c', c1, c2, -⟩ := t1 p hp (by omega)
        omega
      refine ⟨⟨rfl, congrArg nI (va_up_self _ _ _).symm, congrArg nI (va_up_self _ _ _).symm, congrArg nI k7.symm, congrArg nI k8.symm, congrArg nI hobn.symm⟩, ⟨?_, ?_, ?_, ?_, ?_, fun z => by omega⟩, ?_, ?_, ?_, Or.inl rfl⟩
      · rw [k7]; exact hs1
      · rw [k7]; omega
      · rw [k8]; omega
      · rw [hobn]; exact hobb.1
      · rw [hobn]; exact hobb.2
      · rw [show r_sum (gS (tu q) c) 256 = 0 from r_sum_0 256 (fun p hp => if_neg (hz p hp))]; rfl
      · rw [show r_sum (gL (tu q) (r_ac r c b a) c) 256 = 0 from r_sum_0 256 (fun p hp => if_neg (hz p hp))]; rfl
      · exact (upd_self _ _ _).symm
    · rw [va_up_ne _ _ e]
      obtain ⟨⟨a0, a1, a2, a3, a4, a5⟩, b0, c6, c7, c8, cE⟩ := hc c (by omega)
      have hgL : gL (tu q) (r_ac r nc b a) c = gL (tu q) r c := by
        funext p
        unfold gL
        rw [hob c e]
        rfl
      refine ⟨⟨a0, ?_, ?_, ?_, ?_, ?_⟩, b0.cg (kk 7 c e (by decide) (by decide)) (kk 8 c e (by decide) (by decide)), c6, ?_, ?_, ?_⟩
      · rw [kk 5 c e (by decide) (by decide)]; exact a1
      · rw [kk 6 c e (by decide) (by decide)]; exact a2
      · rw [kk 7 c e (by decide) (by decide)]; exact a3
      · rw [kk 8 c e (by decide) (by decide)]; exact a4
      · rw [hob c e]; exact a5
      · rw [hgL]; exact c7
      · show _ = upd (r.2.2 3) nc (-1) c
        rw [upd_ne _ _ e]; exact c8
      · rcases cE with z | ⟨E, e1, e2, e3, e4⟩
        · exact Or.inl z
        · exact Or.inr ⟨E, e1, e2, e3, by rw [hob c e]; exact e4⟩
end
