section
variable {sc td : Nat → Int32} {q : q_T} {nc : Nat} {cf : Nat → Nat → Int32} {S : Nat → Option s_T} {mem : Nat → Nat} {r : r_T}
/-- what is live by size: nothing is wrong with it, in both -/
theorem RLQ.dl (h : RLQ sc td q nc cf S mem r) {a P : Nat} (hD : DL q S r nc a P) : c_ws q S (r.2.1 7) (r_ob r) (nI a) = 0 ∧ r_ca r (nI a) = nI (c_ka q P) ∧ H_gbs q S (r.2.1 7) (r_ob r) a P := by
  have hx := h.ext hD
  have h12 := h.k.2.2
  have hkb : 1 ≤ k_bytes (c_ka q P) := by
    unfold k_bytes
    split
    · have := Nat.two_pow_pos (c_ka q P); omega
    · have := Nat.two_pow_pos (c_ka q P - 6); omega
  obtain ⟨ha, hP, hD⟩ := hD
  obtain ⟨hs, hus, hfo, hjf⟩ := h.inb hP hx.2.2.2.2 hx.1 (by omega) ha
  have hpos := tu_pos hx.2.2.2.2
  rw [c_ws_at ha]
  rcases hD with ⟨c, i, j, rr, n, f, w, d1, d2, d3, d4, d5, d6, d7⟩ | ⟨d1, d2⟩
  · obtain ⟨k1, k2, k3, k4, k5, k6⟩ := (h.c c d2).2.1
    obtain ⟨hsa, hco⟩ := h.sa ha hP d3 hs hus hfo
    have hoff : a - 64 * P = i * r.2.1 7 c := by omega
    have hm : (a - 64 * P) % r.2.1 7 c = 0 := by rw [hoff]; exact Nat.mul_mod_left _ _
    have hd : (a - 64 * P) / r.2.1 7 c = i := by rw [hoff]; exact Nat.mul_div_cancel _ (by omega)
    obtain ⟨c', c1, c2, c3, c4⟩ := h.t.1 P hP (by omega)
    rw [show c' = c by omega] at c4
    have hfob : r_fob r P a c = 0 := by
      obtain ⟨j', rr', f', w', s1, s2⟩ := c4.has
      rw [d6] at s1
      injection s1 with s1
      injection s1 with i1 s1
      injection s1 with i2 s1
      injection s1 with i3 s1
      injection s1 with i4 s1
      injection s1 with i5 i6
      subst i6
      unfold r_fob
      rw [hd, if_pos ⟨hm, d5⟩, if_neg ((s2 i d5).mp d7)]
    have huf : j_uf q.1 q.2.1 (oI (j_fo q.1 (nI (a / 64)))) = nI (2 + c) := by
      rw [hjf]
      exact (uf_iff hP (h.bq.1.2 P) (by omega)).mpr ⟨hpos.1, by omega⟩
    refine ⟨?_, ?_, ha, hP, by have := hpos.1; omega, hjf, Or.inl ⟨c, i, d1, by omega, ha, hP, by have := hpos.1; omega, hjf, ?_, ?_⟩⟩
    · unfold c_ws2
      rw [huf, if_pos (show (2 : Int32) ≤ nI (2 + c) from nI_le (a := 2) (by omega) (by omega)), if_pos (show nI (2 + c) < (8 : Int32) from nI_lt (b := 8) (by omega) (by decide)), nI_clamp (by omega), Nat.add_sub_cancel_left, h.wo2 ha hP d3 d2 hjf]
      exact hfob
    · rw [r_ca_some hsa hco (by omega) (by omega), if_neg (show ¬ (5 : Int32) < nI c from nI_nlt (a := 5) (by omega) (by decide)), if_pos hfob, ka_s d3]
    · unfold j_ix
      rw [Nat.mul_comm P 64, hd, if_pos ⟨hm, d5⟩]
    · exact ⟨j, rr, n, f, w, d6, by
        have h9 := (fob_0 hfob).2.2
        have h8 := c4.lt (i := i) d5 (by rw [← hd]; exact h9)
        obtain ⟨j', rr', f', w', s1, -⟩ := c4
        rw [d6] at s1
        injection s1 with s1
        injection s1 with i1 s1
        injection s1 with i2 s1
        injection s1 with i3 s1
        omega⟩
  · have ha64 : a / 64 = P := by omega
    have huf : j_uf q.1 q.2.1 (oI (j_fo q.1 (nI (a / 64)))) = 1 := by
      rw [hjf]
      show j_uf q.1 q.2.1 (nI P) = 1
      rw [j_uf_at hP hpos.1, hpos.2.1, d1]
      rfl
    have hwp := h.wp hP
    have hwp1 : j_wp q.1 q.2.1 (nI P) = 0 := by
      unfold j_wp
      rw [show j_uf q.1 q.2.1 (nI P) = 1 by rw [j_uf_at hP hpos.1, hpos.2.1, d1]; rfl]
      rfl
    have hA := (h.pb (h.on hpos.1)).1 P hP hpos.1
    have hsa : r_sa r (nI a) = none := by
      unfold r_sa
      split
      · rw [nI_clamp (by omega), hfo, hA.2.2.2.2.2, if_pos (show q.2.1 P ≤ 1 by omega), if_neg (fun z => absurd z.2 (by decide))]
      · rfl
    refine ⟨?_, ?_, ha, hP, by have := hpos.1; omega, hjf, Or.inr ⟨by omega, ha64.symm⟩⟩
    · unfold c_ws2
      rw [huf, if_neg (by decide), if_pos (by omega), ha64]
      exact hwp1
    · rw [r_ca_none hsa (by omega), if_neg (by omega), ha64, if_pos (by rw [← hwp.1]; exact hwp1), ka_b d1, hA.2.2.2.1]
theorem fob_neg {r : r_T} {P a c : Nat} (h : ¬ r_fob r P a c = 0) : r_fob r P a c < 0 := by
  rcases r_fob_cases r P a c with z | z | z
  · rw [z]; decide
  · rw [z]; decide
  · exact absurd z h
theorem fp_neg {r : r_T} {x : Int32} (h : ¬ r_fp r x = 0) : r_fp r x < 0 := by
  rcases r_fp_cases r x with z | z | z
  · rw [z]; decide
  · rw [z]; decide
  · exact absurd z.1 h
theorem RLQ.ws (h : RLQ sc td q nc cf S mem r) (x : Int32) : (c_ws q S (r.2.1 7) (r_ob r) x = r_ca r x ∧ r_ca r x < 0) ∨ ∃ a P, x = nI a ∧ DL q S r nc a P := by
  have h12 := h.k.2.2
  by_cases hx : 0 ≤ x ∧ x < 16384
  · obtain ⟨a, ha, rfl⟩ := ad_of hx
    rw [c_ws_at ha]
    have hfo := h.fo (x := a / 64) (by omega)
    by_cases hsu : ¬ r.1 0 = 0 ∧ ¬ r.2.2 0 (a / 64) = 0
    · rw [if_pos hsu] at hfo
      have hb := h.pb (by rw [h.st]; exact hsu.1)
      obtain ⟨b1, b2, b3⟩ := hb.2 (a / 64) (by omega) hsu.2
      generalize hPe : r.2.1 1 (a / 64) = P at *
      have hA := hb.1 P b1 b2
      have e4 := tu_of (q := q) b2
      have h13 := h.bq.1.2 P
      have hPa := j_fo_le (by omega) hfo
      rcases Nat.lt_or_ge (q.2.1 P) 2 with hu | hu
      · have hsa : r_sa r (nI a) = none := by
          unfold r_sa
          split
          · rw [nI_clamp (by omega), hPe, hA.2.2.2.2.2, if_pos (show q.2.1 P ≤ 1 by omega), if_neg (fun z => absurd z.2 (by decide))]
          · rfl
        have huf : j_uf q.1 q.2.1 (oI (j_fo q.1 (nI (a / 64)))) = nI (q.2.1 P) := by rw [hfo]; exact j_uf_at b1 b2
        have hc2 : c_ws2 q S (r.2.1 7) (r_ob r) a = if a % 64 = 0 then j_wp q.1 q.2.1 (nI (a / 64)) else -2 := by
          unfold c_ws2
          rw [huf, if_neg (show ¬ (2 : Int32) ≤ nI (q.2.1 P) from fun z => absurd (nI_lt (b := 2) hu (by decide)) (Int32.not_lt.mpr z))]
        rw [hc2, r_ca_none hsa (by omega)]
        by_cases hm : a % 64 = 0
        · rw [if_pos hm, if_neg (fun z => z hm)]
          have hwp := h.wp (p := a / 64) (by omega)
          by_cases hz : r_fp r (nI (a / 64)) = 0
          · exact Or.inr ⟨a, a / 64, rfl, ha, by omega, Or.inr ⟨hwp.2 hz, by omega⟩⟩
          · rw [if_neg hz]
            exact Or.inl ⟨hwp.1, fp_neg hz⟩
        · rw [if_neg hm, if_pos hm]
          exact Or.inl ⟨rfl, by decide⟩
      · obtain ⟨c, c1, c2, c3, c4⟩ := h.tu2 b2 hu b1
        have htu : tu q P = 2 + c := by omega
        obtain ⟨hsa, hco⟩ := h.sa ha b1 htu hsu.1 hsu.2 hPe
        have huf : j_uf q.1 q.2.1 (oI (j_fo q.1 (nI (a / 64)))) = nI (2 + c) := by rw [hfo, ← c2]; exact j_uf_at b1 b2
        rw [r_ca_some hsa hco (by omega) (by omega)]
        rcases Nat.lt_or_ge c 6 with h6 | h6
        · rw [if_neg (show ¬ (5 : Int32) < nI c from nI_nlt (a := 5) (by omega) (by decide))]
          have hc2 : c_ws2 q S (r.2.1 7) (r_ob r) a = r_fob r P a c := by
            unfold c_ws2
            rw [huf, if_pos (show (2 : Int32) ≤ nI (2 + c) from nI_le (a := 2) (by omega) (by omega)), if_pos (show nI (2 + c) < (8 : Int32) from nI_lt (b := 8) (by omega) (by decide)), nI_clamp (by omega), Nat.add_sub_cancel_left]
            exact h.wo2 ha b1 htu c1 hfo
          rw [hc2]
          by_cases hz : r_fob r P a c = 0
          · obtain ⟨z1, z2, z3⟩ := fob_0 hz
            obtain ⟨j, rr, f, w, s1, s2⟩ := c4.has
            refine Or.inr ⟨a, P, rfl, ha, b1, Or.inl ⟨c, (a - 64 * P) / r.2.1 7 c, j, rr, _, f, w, h6, c1, htu, ?_, z2, s1, (s2 _ z2).mpr z3⟩⟩
            have := Nat.div_add_mod (a - 64 * P) (r.2.1 7 c)
            rw [z1, Nat.mul_comm] at this
            omega
          · rw [if_neg hz]
            exact Or.inl ⟨rfl, fob_neg hz⟩
        · rw [if_pos (show (5 : Int32) < nI c from nI_lt (a := 5) (by omega) (by omega))]
          refine Or.inl ⟨?_, by decide⟩
          unfold c_ws2
          rw [huf, if_pos (show (2 : Int32) ≤ nI (2 + c) from nI_le (a := 2) (by omega) (by omega)), if_neg (show ¬ nI (2 + c) < (8 : Int32) from nI_nlt (b := 8) (by omega) (by omega))]
    · rw [if_neg hsu] at hfo
      have hsa : r_sa r (nI a) = none := sa_out (fun z => hsu ⟨z.1, by have := z.2.2; rw [nI_clamp (by omega)] at this; exact this⟩)
      have huf : j_uf q.1 q.2.1 (oI (j_fo q.1 (nI (a / 64)))) = -1 := by
        rw [hfo]
        exact if_neg (fun z => absurd z.1.1 (by decide))
      have hfi : r_fp r (nI (a / 64)) = -2 := by
        unfold r_fp
        rw [r_fi_nI (by omega), if_neg (fun z => hsu ⟨(of_decide_eq_true z).1, (of_decide_eq_true z).2.1⟩)]
      have hwp := (h.wp (p := a / 64) (by omega)).1
      left
      rw [r_ca_none hsa (by omega)]
      unfold c_ws2
      rw [huf, if_neg (by decide), hwp, hfi]
      by_cases hm : a % 64 = 0
      · rw [if_pos hm, if_neg (fun z => z hm), if_neg (by decide)]
        exact ⟨rfl, by decide⟩
      · rw [if_neg hm, if_pos hm]
        exact ⟨rfl, by decide⟩
  · left
    have e1 : c_ws q S (r.2.1 7) (r_ob r) x = -2 := if_neg hx
    have hsa : r_sa r x = none := sa_out (fun z => hx ⟨z.2.1.1, by
      obtain ⟨k, hk, rfl⟩ := in_of (M := 16383) (by decide) z.2.1
      exact nI_lt (b := 16384) (by omega) (by decide)⟩)
    have e2 : r_ca r x = -2 := by
      unfold r_ca
      rw [hsa]
      dsimp only
      by_cases hn : x < 0
      · rw [if_pos (Or.inl hn)]
      · obtain ⟨j, hj, rfl⟩ := nI_of hn
        rw [nI_clamp hj]
        by_cases hm : j % 64 = 0
        · rw [if_neg (fun z => z.elim hn (fun y => y hm))]
          have hj2 : 16384 ≤ j := by
            rcases Nat.lt_or_ge j 16384 with z | z
            · exact absurd (ad_in z) hx
            · exact z
          have hfp : r_fp r (nI (j / 64)) = -2 := by
            unfold r_fp
            rw [r_fi_out (fun z => by
              obtain ⟨k, hk, e⟩ := in_of (M := 255) (by decide) z
              have := (nI_eq (by omega) (by omega)).mp e
              omega)]
            rfl
          rw [hfp]
          rfl
        · rw [if_pos (Or.inr hm)]
    rw [e1, e2]
    exact ⟨rfl, by decide⟩
/-- an object comes back -/
theorem RLQ.gvT (h : RLQ sc td q nc cf S mem r) {c P i : Nat} (hP : P < 256) (hc : c < nc) (hu : tu q P = 2 + c) (hi : i < r_ob r c) (hl : ∀ j rr n ob f w, S P = some (j, rr, n, ob, f, w) → lb w i = true) {x : Int32} {sc' : Nat → Int32} {q' : q_T} {cf' : Nat → Nat → Int32} {S' : Nat → Option s_T} (hT : T_give sc q cf S c P i x sc' q' cf' S') : x = nI (r_ob r c - (r.2.1 4 P + 1)) ∧ RLQ sc' td q' nc cf' S' mem (r_goS r P i c) := by
  obtain ⟨j, rr, n, ob, f, w, hS, rfl, rfl, hc3⟩ := hT
  obtain ⟨g1, g2, g3, g4⟩ := h.gvo hP hc hu hS hi (hl _ _ _ _ _ _ hS)
  refine ⟨by rw [g1, g2], ?_⟩
  have hob1 : r_ob (r_go1 r P i) c = r_ob r c := rfl
  have h41 : (r_go1 r P i).2.1 4 P = n + 1 := by rw [g1]; exact va_up_self _ _ _
  unfold r_goS
  rcases hc3 with ⟨e1, rfl, rfl, rfl⟩ | ⟨e1, e2, rfl, rfl, rfl⟩ | ⟨e1, e2, rfl, rfl, rfl⟩
  · rw [if_neg (by omega)]
    exact g4
  · have h3 : r.2.2 3 c = -1 := by rw [← (h.c c hc).2.2.2.2.1]; exact e2
    rw [if_pos (by omega), if_pos (by rw [h3]; decide)]
    have g5 := g4.e8 (c := c) (x := nI P) hc (Or.inr ⟨P, hP, rfl, hu, by rw [h41, hob1]; omega⟩)
    rw [va_up_up, va_up_self] at g5
    exact g5
  · rcases (h.c c hc).2.2.2.2.2 with z | ⟨E, z1, z2, z3, z4⟩
    · exact absurd z e2
    · have h3 : r.2.2 3 c = nI E := by rw [← (h.c c hc).2.2.2.2.1]; exact z2
      rw [if_pos (by omega), if_neg (by rw [h3]; exact nI_pos (by omega))]
      have hEP : E ≠ P := fun y => by rw [y] at z4; omega
      have g5 := g4.drop hP hc hu (by rw [h41, hob1]; omega) (by
        rw [va_up_self, upd_ne _ _ (by decide), z2]
        exact fun y => hEP ((nI_eq (by omega) (by omega)).mp y))
      rw [va_up_up, va_up_self] at g5
      exact g5
/-- give -/
theorem RLQ.gv (h : RLQ sc td q nc cf S mem r) {c : Nat} (hc : c < nc) (y : Int32) : (¬ c_wo q S (r.2.1 7) (r_ob r) c y = 0 ∧ c_wo q S (r.2.1 7) (r_ob r) c y = r_gvA r (nI c) y ∧ r_gvT r (nI c) y = r) ∨ (c_wo q S (r.2.1 7) (r_ob r) c y = 0 ∧ ∃ a P i, y = nI a ∧ H_give q S (r.2.1 7) (r_ob r) c a P i ∧ P < 256 ∧ tu q P = 2 + c ∧ i < r_ob r c ∧ (∀ j rr n ob f w, S P = some (j, rr, n, ob, f, w) → lb w i = true) ∧ r_gvA r (nI c) y = nI (r_ob r c - (r.2.1 4 P + 1)) ∧ r_gvT r (nI c) y = r_goS r P i c) := by
  have h12 := h.k.2.2
  have neg : c_wo q S (r.2.1 7) (r_ob r) c y = -2 → r_gvI r (nI c) y = none → (¬ c_wo q S (r.2.1 7) (r_ob r) c y = 0 ∧ c_wo q S (r.2.1 7) (r_ob r) c y = r_gvA r (nI c) y ∧ r_gvT r (nI c) y = r) := fun e1 e2 => by
    unfold r_gvA r_gvT
    rw [e1, e2]
    exact ⟨by decide, rfl, rfl⟩
  by_cases hx : 0 ≤ y ∧ y < 16384
  · obtain ⟨a, ha, rfl⟩ := ad_of hx
    have hfo := h.fo (x := a / 64) (by omega)
    by_cases hsu : ¬ r.1 0 = 0 ∧ ¬ r.2.2 0 (a / 64) = 0
    · rw [if_pos hsu] at hfo
      have hb := h.pb (by rw [h.st]; exact hsu.1)
      obtain ⟨b1, b2, b3⟩ := hb.2 (a / 64) (by omega) hsu.2
      generalize hPe : r.2.1 1 (a / 64) = P at *
      have hA := hb.1 P b1 b2
      have h13 := h.bq.1.2 P
      have hPa := j_fo_le (by omega) hfo
      by_cases hu : q.2.1 P = 2 + c
      · have htu : tu q P = 2 + c := by rw [tu_of b2]; exact hu
        obtain ⟨hsa, hco⟩ := h.sa ha b1 htu hsu.1 hsu.2 hPe
        have hgi : r_gvI r (nI c) (nI a) = some (P, a, c) := by
          unfold r_gvI
          rw [hsa]
          dsimp only
          rw [if_pos ⟨r_isc_nI h.k.1 h12 hc, hco⟩, nI_clamp (by omega), nI_clamp (by omega)]
        have hwo : c_wo q S (r.2.1 7) (r_ob r) c (nI a) = r_fob r P a c := by rw [c_wo_at ha]; exact h.wo2 ha b1 htu hc hfo
        rw [hwo]
        unfold r_gvA r_gvT
        rw [hgi]
        dsimp only
        by_cases hz : r_fob r P a c = 0
        · obtain ⟨z1, z2, z3⟩ := fob_0 hz
          obtain ⟨c', c1, c2, c3, c4⟩ := h.t.1 P b1 (by omega)
          rw [show c' = c by omega] at c4
          obtain ⟨j, rr, f, w, s1, s2⟩ := c4.has
          refine Or.inr ⟨hz, a, P, (a - 64 * P) / r.2.1 7 c, rfl, ⟨ha, b1, by omega, hfo, ?_, j, rr, _, f, w, s1, c4.lt z2 z3⟩, b1, htu, z2, fun j' rr' n' ob' f' w' hS => ?_, by rw [if_pos hz], by rw [if_pos hz]⟩
          · unfold j_ix
            rw [Nat.mul_comm P 64, if_pos ⟨z1, z2⟩]
          · rw [s1] at hS
            injection hS with hS
            injection hS with i1 hS
            injection hS with i2 hS
            injection hS with i3 hS
            injection hS with i4 hS
            injection hS with i5 i6
            rw [← i6]
            exact (s2 _ z2).mpr z3
        · rw [if_neg hz, if_neg hz]
          exact Or.inl ⟨hz, rfl, rfl⟩
      · left
        apply neg
        · rw [c_wo_at ha]
          unfold c_wo2
          rw [hfo]
          dsimp only
          cases S P with
          | none => rfl
          | some s =>
            dsimp only
            rw [if_neg (fun z => hu ((uf_iff b1 h13 (by omega)).mp z).2)]
        · unfold r_gvI
          split
          · rfl
          · rename_i P' hsa
            obtain ⟨a', ha', hae, -, -, hPe', -, hco⟩ := r_sa_some hsa
            have haa : a = a' := (nI_eq (by omega) (by omega)).mp hae
            rw [← haa, hPe] at hPe'
            rw [if_neg (fun z => ?_)]
            have hc2 := z.2
            rw [hPe', hA.2.2.2.2.2] at hc2
            split at hc2
            · exact nI_m1 (n := c) (by omega) hc2.symm
            · have := (nI_eq (by omega) (by omega)).mp hc2
              omega
    · rw [if_neg hsu] at hfo
      left
      apply neg
      · rw [c_wo_at ha]
        unfold c_wo2
        rw [hfo]
      · have hsa : r_sa r (nI a) = none := sa_out (fun z => hsu ⟨z.1, by have := z.2.2; rw [nI_clamp (by omega)] at this; exact this⟩)
        unfold r_gvI
        rw [hsa]
  · left
    apply neg
    · exact if_neg hx
    · have hsa : r_sa r y = none := sa_out (fun z => hx ⟨z.2.1.1, by
        obtain ⟨k, hk, rfl⟩ := in_of (M := 16383) (by decide) z.2.1
        exact nI_lt (b := 16384) (by omega) (by decide)⟩)
      unfold r_gvI
      rw [hsa]
/-- what was taken by size comes back -/
theorem RLQ.gbs (h : RLQ sc td q nc cf S mem r) {a P : Nat} (hD : DL q S r nc a P) {sc' : Nat → Int32} {q' : q_T} {cf' : Nat → Nat → Int32} {S' : Nat → Option s_T} (hT : T_gbs (r.2.1 7) (r_ob r) sc q cf S a P sc' q' cf' S') : RLQ sc' td q' nc cf' S' mem (r_rlS r a (c_ka q P)) := by
  have hx := h.ext hD
  have hkb : 1 ≤ k_bytes (c_ka q P) := by
    unfold k_bytes
    split
    · have := Nat.two_pow_pos (c_ka q P); omega
    · have := Nat.two_pow_pos (c_ka q P - 6); omega
  obtain ⟨ha, hP, hD⟩ := hD
  obtain ⟨hs, hus, hfo, hjf⟩ := h.inb hP hx.2.2.2.2 hx.1 (by omega) ha
  have hpos := tu_pos hx.2.2.2.2
  rcases hD with ⟨c, i, j, rr, n, f, w, d1, d2, d3, d4, d5, d6, d7⟩ | ⟨d1, d2⟩
  · obtain ⟨hsa, hco⟩ := h.sa ha hP d3 hs hus hfo
    have hk1 := (h.c c d2).2.1.1
    have hoff : a - 64 * P = i * r.2.1 7 c := by omega
    have hd : (a - 64 * P) / r.2.1 7 c = i := by rw [hoff]; exact Nat.mul_div_cancel _ (by omega)
    rcases hT with ⟨c', i', x, t1, t2, t3⟩ | ⟨t1, -⟩
    · have hcc : c' = c := by omega
      subst hcc
      have hii : i' = i := by
        have := (j_ix_some t2.2.2.2.2.1).1
        rw [Nat.mul_comm P 64, hd] at this
        exact this
      subst hii
      have g := (h.gvT hP d2 d3 d5 (fun j2 rr2 n2 ob2 f2 w2 hS2 => by
        rw [d6] at hS2
        injection hS2 with hS2
        injection hS2 with i1 hS2
        injection hS2 with i2 hS2
        injection hS2 with i3 hS2
        injection hS2 with i4 hS2
        injection hS2 with i5 i6
        rw [← i6]; exact d7) t3).2
      unfold r_rlS
      rw [ka_s d3, if_pos d1, hsa]
      dsimp only
      rw [hd]
      exact g
    · omega
  · rcases hT with ⟨c', i', x, t1, t2, t3⟩ | ⟨t1, rfl, rfl, rfl, rfl⟩
    · omega
    · have g := h.fp hP d1
      unfold r_rlS
      rw [ka_b d1, if_neg (by omega), show a / 64 = P by omega]
      exact g
end
