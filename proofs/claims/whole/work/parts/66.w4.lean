/-! the class's calls, by the reference's words -/
def a_st (r : r_T) : Int32 := if r.1 0 = 0 then nI (r_sum (fun p => if r.2.2 0 p = 0 then 0 else 1) 256) else -1
def n_st (r : r_T) : r_T := if r.1 0 = 0 then r_st (r.2.2 0) 256 0 (upd r.1 0 1, r.2) else r
def a_tk (r : r_T) (x : Int32) : Int32 := if ¬ r.1 0 = 0 ∧ r_isc r x = true then oI (r_toO r x.toNatClampNeg) else -1
def n_tk (r : r_T) (x : Int32) : r_T := if ¬ r.1 0 = 0 ∧ r_isc r x = true then r_toS r x.toNatClampNeg else r
def a_al (r : r_T) (x : Int32) : Int32 := if r_alB r x = true then oI (r_alO r x.toNatClampNeg) else -1
def n_al (r : r_T) (x : Int32) : r_T := if r_alB r x = true then r_alS r x.toNatClampNeg else r
def a_fb (r : r_T) (x : Int32) : Int32 := if 0 ≤ x ∧ x ≤ 6 then nI (r_sum (fun p => if r_free r p = true ∧ r.2.1 2 p = x.toNatClampNeg then 1 else 0) 256) else -1
def a_cn (r : r_T) (x : Int32) : Int32 := r_cnA r (r.1 1).toNatClampNeg x
theorem nI_leN {a b : Nat} (ha : a < 2 ^ 31) (h : nI a ≤ nI b) : a ≤ b := by
  rcases Nat.lt_or_ge b a with z | z
  · exact absurd (nI_lt z ha) (Int32.not_lt.mpr h)
  · exact z
theorem b1_of {M : Nat} {x : Int32} (hM : M < 65536) (h : 1 ≤ x ∧ x ≤ nI M) : ∃ b : Nat, 1 ≤ b ∧ b ≤ M ∧ x = nI b := by
  obtain ⟨b, hb, rfl⟩ := in_of hM ⟨Int32.le_trans (by decide) h.1, h.2⟩
  refine ⟨b, ?_, hb, rfl⟩
  exact nI_leN (a := 1) (by decide) h.1
section
variable {l : Launch} {G : z_G} {base : Nat} {hp : List va_E} {r : r_T}
theorem w4_usable (hK : KK G base r r hp) (x y : Int32) : z_M l G base yX4_usable cX4_usable 3 (some .boolean) 1 0 0 [.ref (base + 0), .int x, .int y] hp (fun v hp' => v = some (.int (bI (r_usB r x y))) ∧ KK G base (r_usS r x y) r hp') := by
  obtain ⟨sc, td, q, nc, cf, pl, S, mem, xs, tl, hC, hh, hR⟩ := hK
  by_cases e : r_usB r x y = true
  · obtain ⟨e1, e2, e3, e4⟩ := of_decide_eq_true e
    obtain ⟨a, ha, rfl⟩ := pg_of (x := x) ⟨e2.1, le255.mp e2.2⟩
    obtain ⟨b, hb, rfl⟩ := pg_of (x := y) ⟨Int32.le_trans e2.1 e3, le255.mp e4⟩
    have hab : a ≤ b := nI_leN (by omega) e3
    have hst : sc 0 = 0 := by rw [hR.st]; exact e1
    refine K4_chg hh ?_ ?_ (m_X4_usable l G base sc td q nc cf pl S mem hp hC a b hab hb hst)
    · unfold r_usS
      rw [if_pos e, cl_nI ha, cl_nI hb]
      exact hR.tell hab hb hst
    · rw [e]; rfl
  · refine K4_same hC hh ?_ ?_ (m_X4_usable_2 l G base sc td q nc cf pl S mem hp hC x y (by rw [hR.usB]; exact e))
    · unfold r_usS
      rw [if_neg e]
      exact hR
    · rw [Bool.not_eq_true] at e
      rw [e]; rfl
theorem w4_start (hK : KK G base r r hp) : z_M l G base yX4_start cX4_start 1 (some .int) 3 0 0 [.ref (base + 0)] hp (fun v hp' => v = some (.int (a_st r)) ∧ KK G base (n_st r) r hp') := by
  obtain ⟨sc, td, q, nc, cf, pl, S, mem, xs, tl, hC, hh, hR⟩ := hK
  by_cases e : r.1 0 = 0
  · have hst : sc 0 = 0 := by rw [hR.st]; exact e
    refine K4_chg hh ?_ ?_ (m_X4_start l G base sc td q nc cf pl S mem hp hC _ _ _ hR.X hst)
    · unfold n_st
      rw [if_pos e]
      exact hR.start hst
    · unfold a_st
      rw [if_pos e, hR.n.2.2.1, hR.us]
      rfl
  · have hst : ¬ sc 0 = 0 := by rw [hR.st]; exact e
    refine K4_same hC hh ?_ ?_ (m_X4_start_2 l G base sc td q nc cf pl S mem hp hC hst)
    · unfold n_st
      rw [if_neg e]
      exact hR
    · unfold a_st
      rw [if_neg e]
theorem w4_pages (hK : KK G base r r hp) (x : Int32) : z_M l G base yX4_pages cX4_pages 2 (some .int) 3 0 0 [.ref (base + 0), .int x] hp (fun v hp' => v = some (.int (r_pgA r x)) ∧ KK G base (r_pgS r x) r hp') := by
  obtain ⟨sc, td, q, nc, cf, pl, S, mem, xs, tl, hC, hh, hR⟩ := hK
  by_cases e : ¬ r.1 0 = 0 ∧ 0 ≤ x ∧ x ≤ 6
  · obtain ⟨k, hk, rfl⟩ := in_of (M := 6) (by decide) e.2
    have hst : ¬ sc 0 = 0 := by rw [hR.st]; exact e.1
    obtain ⟨g1, g2⟩ := hR.pg hst hk
    refine K4_chg hh ?_ ?_ (m_X4_pages l G base sc td q nc cf pl S mem hp hC _ _ _ hR.X k hk hst)
    · unfold r_pgS
      rw [if_pos e, nI_clamp (by omega)]
      exact g2
    · unfold r_pgA
      rw [if_pos e, nI_clamp (by omega), g1]
  · refine K4_same hC hh ?_ ?_ (m_X4_pages_2 l G base sc td q nc cf pl S mem hp hC x (by rw [hR.st]; exact e))
    · unfold r_pgS
      rw [if_neg e]
      exact hR
    · unfold r_pgA
      rw [if_neg e]
theorem w4_freePages (hK : KK G base r r hp) (x : Int32) : z_M l G base yX4_freePages cX4_freePages 4 (some .int) 3 0 0 [.ref (base + 0), .int x] hp (fun v hp' => v = some (.int (r_fpA r x)) ∧ KK G base (r_fpS r x) r hp') := by
  obtain ⟨sc, td, q, nc, cf, pl, S, mem, xs, tl, hC, hh, hR⟩ := hK
  rcases hR.fpx x with ⟨g1, g2, g3⟩ | ⟨P, hP, rfl, g1, g2, g3, g4⟩
  · exact K4_same hC hh (by rw [g3]; exact hR) g2 (m_X4_freePages_2 l G base sc td q nc cf pl S mem hp hC _ _ _ hR.X x g1)
  · exact K4_chg hh g4 g3 (m_X4_freePages l G base sc td q nc cf pl S mem hp hC _ _ _ hR.X P hP g1 g2)
theorem w4_cache (hK : KK G base r r hp) (x y : Int32) : z_M l G base yX4_cache cX4_cache 4 (some .int) 3 1 9 [.ref (base + 0), .int x, .int y] hp (fun v hp' => v = some (.int (r_chA r x y)) ∧ KK G base (r_chS r x y) r hp') := by
  obtain ⟨sc, td, q, nc, cf, pl, S, mem, xs, tl, hC, hh, hR⟩ := hK
  have h12 := hR.k.2.2
  by_cases e : r_chB r x y = true
  · have e' := e
    rw [← hR.chB] at e'
    obtain ⟨e1, e2, e3, e4, e5, e6⟩ := of_decide_eq_true e'
    obtain ⟨b, hb, hb2, rfl⟩ := b1_of (M := 1024) (by decide) e3
    obtain ⟨a, ha, ha2, rfl⟩ := b1_of (M := 64) (by decide) ⟨e4, e5⟩
    have hn : nc < 12 := (nI_ltI (b := 12) (by omega) (by decide)).mp e2
    refine (m_X4_cache l G base sc td q nc cf pl S mem hp hC hn b a hb hb2 ha ha2 e6 e1).mono (fun v hp' g => ?_)
    obtain ⟨g1, pl', g2, g3⟩ := g
    refine ⟨?_, KK.chg hh g2 g3 ?_⟩
    · unfold r_chA
      rw [g1, if_pos e, hR.k.1]
    · unfold r_chS
      rw [if_pos e, hR.k.1, nI_clamp (by omega), nI_clamp (by omega), nI_clamp (by omega)]
      exact hR.newc hn hb hb2 ha ha2 e6
  · refine K4_same hC hh ?_ ?_ (m_X4_cache_2 l G base sc td q nc cf pl S mem hp hC x y (by rw [hR.chB]; exact e))
    · unfold r_chS
      rw [if_neg e]
      exact hR
    · unfold r_chA
      rw [if_neg e]
theorem w4_take (hK : KK G base r r hp) (x : Int32) : z_M l G base yX4_take cX4_take 3 (some .int) 5 2 68 [.ref (base + 0), .int x] hp (fun v hp' => v = some (.int (a_tk r x)) ∧ KK G base (n_tk r x) r hp') := by
  obtain ⟨sc, td, q, nc, cf, pl, S, mem, xs, tl, hC, hh, hR⟩ := hK
  have h12 := hR.k.2.2
  have hi := isc_iff (x := x) hR.k.1 h12
  by_cases e : ¬ r.1 0 = 0 ∧ r_isc r x = true
  · have hst : ¬ sc 0 = 0 := by rw [hR.st]; exact e.1
    obtain ⟨c, hc, rfl⟩ := r_isc_true hR.k.1 h12 e.2
    refine (m_X4_take l G base sc td q nc cf pl S mem hp hC _ _ _ hR.X c hc hst).mono (fun v hp' g => ?_)
    obtain ⟨x', sc', q', cf', S', g1, g2, g3, g4⟩ := g
    obtain ⟨t1, t2, -⟩ := hR.take hst hc g2
    refine ⟨?_, KK.chg hh g3 g4 ?_⟩
    · unfold a_tk
      rw [if_pos e, nI_clamp (by omega), g1, t1]
    · unfold n_tk
      rw [if_pos e, nI_clamp (by omega)]
      exact t2
  · refine K4_same hC hh ?_ ?_ (m_X4_take_2 l G base sc td q nc cf pl S mem hp hC _ _ _ hR.X x (fun z => e ⟨by rw [← hR.st]; exact z.1, hi.mpr z.2⟩))
    · unfold n_tk
      rw [if_neg e]
      exact hR
    · unfold a_tk
      rw [if_neg e]
theorem w4_give (hK : KK G base r r hp) (x y : Int32) : z_M l G base yX4_give cX4_give 5 (some .int) 5 0 0 [.ref (base + 0), .int x, .int y] hp (fun v hp' => v = some (.int (r_gvA r x y)) ∧ KK G base (r_gvT r x y) r hp') := by
  obtain ⟨sc, td, q, nc, cf, pl, S, mem, xs, tl, hC, hh, hR⟩ := hK
  have h12 := hR.k.2.2
  have hi := isc_iff (x := x) hR.k.1 h12
  by_cases e : r_isc r x = true
  · obtain ⟨c, hc, rfl⟩ := r_isc_true hR.k.1 h12 e
    rcases hR.gv hc y with ⟨g1, g2, g3⟩ | ⟨g1, a, P, i, rfl, g2, g3, g4, g5, g6, g7, g8⟩
    · exact K4_same hC hh (by rw [g3]; exact hR) g2 (m_X4_give_2 l G base sc td q nc cf pl S mem hp hC _ _ _ hR.X c hc y g1)
    · refine (m_X4_give l G base sc td q nc cf pl S mem hp hC _ _ _ hR.X c hc a P i g2 g1).mono (fun v hp' g => ?_)
      obtain ⟨x', sc', q', cf', S', k1, k2, k3, k4⟩ := g
      obtain ⟨t1, t2⟩ := hR.gvT g3 hc g4 g5 g6 k2
      refine ⟨by rw [k1, t1, g7], KK.chg hh k3 k4 (by rw [g8]; exact t2)⟩
  · have e2 : r_gvI r x y = none := by
      unfold r_gvI
      split
      · rfl
      · exact if_neg (fun z => e z.1)
    refine K4_same hC hh ?_ ?_ (m_X4_give_3 l G base sc td q nc cf pl S mem hp hC _ _ _ hR.X x y (fun z => e (hi.mpr z)))
    · unfold r_gvT
      rw [e2]
      exact hR
    · unfold r_gvA
      rw [e2]
theorem w4_shrink (hK : KK G base r r hp) (x : Int32) : z_M l G base yX4_shrink cX4_shrink 4 (some .int) 4 0 0 [.ref (base + 0), .int x] hp (fun v hp' => v = some (.int (r_shA r x)) ∧ KK G base (r_shS r x) r hp') := by
  obtain ⟨sc, td, q, nc, cf, pl, S, mem, xs, tl, hC, hh, hR⟩ := hK
  have h12 := hR.k.2.2
  have hi := isc_iff (x := x) hR.k.1 h12
  by_cases e : r_isc r x = true
  · obtain ⟨c, hc, rfl⟩ := r_isc_true hR.k.1 h12 e
    rcases hR.shr hc with ⟨g1, g2, g3⟩ | ⟨E, g1, g2, g3, g4, g5⟩
    · exact K4_same hC hh g3 g2.symm (m_X4_shrink_2 l G base sc td q nc cf pl S mem hp hC _ _ _ hR.X c hc g1)
    · exact K4_chg hh g5 g4 (m_X4_shrink l G base sc td q nc cf pl S mem hp hC _ _ _ hR.X c hc E g2 g1 g3)
  · refine K4_same hC hh ?_ ?_ (m_X4_shrink_3 l G base sc td q nc cf pl S mem hp hC _ _ _ hR.X x (fun z => e (hi.mpr z)))
    · unfold r_shS
      rw [if_neg e]
      exact hR
    · unfold r_shA
      rw [if_neg e]
theorem w4_alloc (hK : KK G base r r hp) (x : Int32) : z_M l G base yX4_alloc cX4_alloc 2 (some .int) 6 2 68 [.ref (base + 0), .int x] hp (fun v hp' => v = some (.int (a_al r x)) ∧ KK G base (n_al r x) r hp') := by
  obtain ⟨sc, td, q, nc, cf, pl, S, mem, xs, tl, hC, hh, hR⟩ := hK
  by_cases e : r_alB r x = true
  · obtain ⟨e1, e2⟩ := of_decide_eq_true e
    have hst : ¬ sc 0 = 0 := by rw [hR.st]; exact e1
    obtain ⟨b, hb, hb2, rfl⟩ := b1_of (M := 4096) (by decide) e2
    refine (m_X4_alloc l G base sc td q nc cf pl S mem hp hC _ _ _ hR.X b hb hb2 hst).mono (fun v hp' g => ?_)
    obtain ⟨x', sc', q', cf', S', g1, g2, g3, g4⟩ := g
    obtain ⟨t1, t2, -⟩ := hR.kind hst hb2 g2
    refine ⟨?_, KK.chg hh g3 g4 ?_⟩
    · unfold a_al
      rw [if_pos e, nI_clamp (by omega), g1, t1]
    · unfold n_al
      rw [if_pos e, nI_clamp (by omega)]
      exact t2
  · refine K4_same hC hh ?_ ?_ (m_X4_alloc_2 l G base sc td q nc cf pl S mem hp hC x (fun z => e (decide_eq_true ⟨by rw [← hR.st]; exact z.1, z.2⟩)))
    · unfold n_al
      rw [if_neg e]
      exact hR
    · unfold a_al
      rw [if_neg e]
theorem w4_free (hK : KK G base r r hp) (x : Int32) : z_M l G base yX4_free cX4_free 4 (some .int) 6 0 0 [.ref (base + 0), .int x] hp (fun v hp' => v = some (.int (r_szA r x)) ∧ KK G base (r_frS r x) r hp') := by
  obtain ⟨sc, td, q, nc, cf, pl, S, mem, xs, tl, hC, hh, hR⟩ := hK
  rcases hR.ws x with ⟨g1, g2⟩ | ⟨a, P, rfl, hD⟩
  · refine K4_same hC hh ?_ ?_ (m_X4_free_2 l G base sc td q nc cf pl S mem hp hC _ _ _ hR.X x (by rw [g1]; exact fun z => by rw [z] at g2; exact absurd g2 (by decide)))
    · unfold r_frS
      rw [if_pos g2]
      exact hR
    · unfold r_szA
      rw [if_pos g2, g1]
  · obtain ⟨g1, g2, g3⟩ := hR.dl hD
    have hka := c_ka_le hR.X g3
    have ha := hD.1
    have hn : ¬ r_ca r (nI a) < 0 := by rw [g2]; exact Int32.not_lt.mpr (nI_pos' (by omega))
    refine (m_X4_free l G base sc td q nc cf pl S mem hp hC _ _ _ hR.X a P g3 g1).mono (fun v hp' g => ?_)
    obtain ⟨k1, sc', q', cf', S', k2, k3, k4⟩ := g
    refine ⟨?_, KK.chg hh k3 k4 ?_⟩
    · unfold r_szA
      rw [if_neg hn, g2, nI_clamp (by omega), k1]
    · unfold r_frS
      rw [if_neg hn, g2, nI_clamp (by omega), nI_clamp (by omega)]
      exact hR.gbs hD k2
theorem w4_size (hK : KK G base r r hp) (x : Int32) : z_M l G base yX4_size cX4_size 3 (some .int) 6 0 0 [.ref (base + 0), .int x] hp (fun v hp' => v = some (.int (r_szA r x)) ∧ KK G base r r hp') := by
  obtain ⟨sc, td, q, nc, cf, pl, S, mem, xs, tl, hC, hh, hR⟩ := hK
  rcases hR.ws x with ⟨g1, g2⟩ | ⟨a, P, rfl, hD⟩
  · refine K4_same hC hh hR ?_ (m_X4_size_2 l G base sc td q nc cf pl S mem hp hC _ _ _ hR.X x (by rw [g1]; exact fun z => by rw [z] at g2; exact absurd g2 (by decide)))
    unfold r_szA
    rw [if_pos g2, g1]
  · obtain ⟨g1, g2, g3⟩ := hR.dl hD
    have hka := c_ka_le hR.X g3
    have hn : ¬ r_ca r (nI a) < 0 := by rw [g2]; exact Int32.not_lt.mpr (nI_pos' (by omega))
    refine K4_same hC hh hR ?_ (m_X4_size l G base sc td q nc cf pl S mem hp hC _ _ _ hR.X a P g3 g1)
    unfold r_szA
    rw [if_neg hn, g2, nI_clamp (by omega)]
theorem w4_resize (hK : KK G base r r hp) (x y : Int32) : z_M l G base yX4_resize cX4_resize 7 (some .int) 6 2 68 [.ref (base + 0), .int x, .int y] hp (fun v hp' => v = some (.int (r_rsA r x y)) ∧ KK G base (r_rsS r x y) r hp') := by
  obtain ⟨sc, td, q, nc, cf, pl, S, mem, xs, tl, hC, hh, hR⟩ := hK
  rcases hR.ws x with ⟨g1, g2⟩ | ⟨a, P, rfl, hD⟩
  · refine K4_same hC hh ?_ ?_ (m_X4_resize_2 l G base sc td q nc cf pl S mem hp hC _ _ _ hR.X x y (by rw [g1]; exact fun z => by rw [z] at g2; exact absurd g2 (by decide)))
    · unfold r_rsS
      rw [if_neg (fun z => (of_decide_eq_true z).1 g2)]
      exact hR
    · unfold r_rsA
      rw [if_pos g2, g1]
  · obtain ⟨g1, g2, g3⟩ := hR.dl hD
    have hka := c_ka_le hR.X g3
    have ha := hD.1
    have hn : ¬ r_ca r (nI a) < 0 := by rw [g2]; exact Int32.not_lt.mpr (nI_pos' (by omega))
    by_cases hy : 1 ≤ y ∧ y ≤ 4096
    · have hy' := hy
      obtain ⟨b, hb, hb2, rfl⟩ := b1_of (M := 4096) (by decide) hy'
      have hks := k_same b (by omega)
      have hcl := k_cls_le (b := b)
      by_cases hk : c_ka q P = k_kf b 12 0
      · have he : r_ca r (nI a) = nI (k_cls (nI b).toNatClampNeg) := by rw [g2, hk, hks.1, nI_clamp (by omega)]
        refine K4_same hC hh ?_ ?_ (m_X4_resize_4 l G base sc td q nc cf pl S mem hp hC _ _ _ hR.X a P g3 g1 b hb hb2 hk)
        · unfold r_rsS
          rw [if_neg (fun z => (of_decide_eq_true z).2.2 he)]
          exact hR
        · unfold r_rsA
          rw [if_neg hn, if_pos hy, if_pos he]
      · have he : ¬ r_ca r (nI a) = nI (k_cls (nI b).toNatClampNeg) := by
          rw [g2, nI_clamp (by omega), nI_eq (by omega) (by omega), ← hks.1]
          exact hk
        have hB : r_rsB r (nI a) (nI b) = true := decide_eq_true ⟨hn, hy, he⟩
        have hx := hR.ext hD
        have hbb := Nat.min_le_left (k_bytes (c_ka q P)) b
        refine (m_X4_resize l G base sc td q nc cf pl S mem hp hC _ _ _ hR.X a P g3 g1 b hb hb2 hk hx.2.2.1 (by omega) (fun x' sc' q' cf' S' hT => ?_)).mono (fun v hp' g => ?_)
        · obtain ⟨s1, s2, s3, s4, s5, s6, s7, s8, s9⟩ := hR.rsz hD hb2 hk hT
          rcases s8 with s8 | ⟨t, t1, t2, t3, t4, t5, t6⟩
          · exact Or.inl s8
          · have hX := s2.X
            rw [s5, s6, s7] at hX
            have hG := (s2.dl s3).2.2
            rw [s5, s7] at hG
            exact Or.inr ⟨t, t1, t3, t5, t6, hX, hG⟩
        · obtain ⟨x', sc', q', cf', S', hT, hf, hv, hc⟩ := g
          obtain ⟨s1, s2, s3, s4, s5, s6, s7, s8, s9⟩ := hR.rsz hD hb2 hk hT
          have hans : v = some (.int (r_rsA r (nI a) (nI b))) := by
            unfold r_rsA
            rw [if_neg hn, if_pos hy, if_neg he, nI_clamp (by omega), hv, s1]
          refine ⟨hans, ?_⟩
          unfold r_rsS
          rw [if_pos hB, nI_clamp (by omega), nI_clamp (by omega), g2, nI_clamp (by omega)]
          rcases hc with ⟨c1, c2⟩ | ⟨t, sc2, q2, cf2, S2, c1, ct, c2, c3⟩
          · have hnone : r_alO r b = none := by
              cases eo : r_alO r b with
              | none => rfl
              | some t =>
                rw [eo] at s1
                exact absurd (show nI t = -1 from s1.symm.trans c1) (nI_m1 (s9 t eo))
            rw [hnone]
            exact KK.chg hh c2 hf s2
          · have hsome : r_alO r b = some t := by
              cases eo : r_alO r b with
              | none =>
                rw [eo] at s1
                exact absurd (show nI t = -1 from c1.symm.trans s1) (nI_m1 (by omega))
              | some t' =>
                rw [eo] at s1
                have : t' = t := (nI_eq (s9 t' eo) (by omega)).mp (show nI t' = nI t from s1.symm.trans c1)
                rw [this]
            rw [hsome]
            rcases s8 with s8 | ⟨t', t1, t2, t3, t4, t5, t6⟩
            · exact absurd (c1.symm.trans s8) (nI_m1 (by omega))
            · have htt : t' = t := (nI_eq (by omega) (by omega)).mp (t1.symm.trans c1)
              rw [htt] at t6
              show KK G base (r_rlS (r_setm (r_alS r b) (r_mcp ((r_alS r b).2.1 0) a t (min (k_bytes (c_ka q P)) b) 0)) a (c_ka q P)) r hp'
              rw [← s2.m, mcp_0 t6, ← s4]
              have hm := s2.setm (q_cpm mem a t (min (k_bytes (c_ka q P)) b))
              rw [← s4] at hm
              have hD2 : DL q' S' (r_setm (r_alS r b) (q_cpm mem a t (min (k_bytes (c_ka q' P)) b))) nc a P := s3
              rw [← s5, ← s7] at c2
              rw [← s4] at c3
              exact KK.chg hh c3 hf (hm.gbs hD2 c2)
    · refine K4_same hC hh ?_ ?_ (m_X4_resize_3 l G base sc td q nc cf pl S mem hp hC _ _ _ hR.X (nI a) y g1 hy)
      · unfold r_rsS
        rw [if_neg (fun z => hy (of_decide_eq_true z).2.1)]
        exact hR
      · unfold r_rsA
        rw [if_neg hn, if_neg hy]
theorem w4_read (hK : KK G base r r hp) (x : Int32) : z_M l G base yX4_read cX4_read 2 (some .int) 2 0 0 [.ref (base + 0), .int x] hp (fun v hp' => v = some (.int (r_rdA r x)) ∧ KK G base r r hp') := by
  obtain ⟨sc, td, q, nc, cf, pl, S, mem, xs, tl, hC, hh, hR⟩ := hK
  exact K4_same hC hh hR (hR.rdA x) (m_X4_read l G base sc td q nc cf pl S mem hp hC x)
theorem w4_write (hK : KK G base r r hp) (x y : Int32) : z_M l G base yX4_write cX4_write 4 (some .int) 2 0 0 [.ref (base + 0), .int x, .int y] hp (fun v hp' => v = some (.int (r_rdA r x)) ∧ KK G base (r_wrS r x y) r hp') := by
  obtain ⟨sc, td, q, nc, cf, pl, S, mem, xs, tl, hC, hh, hR⟩ := hK
  by_cases e : 0 ≤ x ∧ x < 16384
  · obtain ⟨a, ha, rfl⟩ := ad_of e
    have e' : 0 ≤ nI a ∧ nI a ≤ 16383 := ⟨e.1, le16383.mpr e.2⟩
    refine K4_chg hh ?_ ?_ (m_X4_write l G base sc td q nc cf pl S mem hp hC a ha y)
    · unfold r_wrS
      rw [if_pos e', nI_clamp (by omega), ← hR.m]
      exact hR.setm _
    · unfold r_rdA
      rw [if_pos e', nI_clamp (by omega), hR.m]
  · have e' : ¬ (0 ≤ x ∧ x ≤ 16383) := fun z => e ⟨z.1, le16383.mp z.2⟩
    refine K4_same hC hh ?_ ?_ (m_X4_write_2 l G base sc td q nc cf pl S mem hp hC x y e)
    · unfold r_wrS
      rw [if_neg e']
      exact hR
    · unfold r_rdA
      rw [if_neg e']
theorem w4_arm (hK : KK G base r r hp) (x : Int32) : z_M l G base yX4_arm cX4_arm 2 (some .boolean) 0 0 0 [.ref (base + 0), .int x] hp (fun v hp' => v = some (.int (bI (decide (0 ≤ x ∧ x ≤ 100)))) ∧ KK G base (r_armS r x) r hp') := by
  obtain ⟨sc, td, q, nc, cf, pl, S, mem, xs, tl, hC, hh, hR⟩ := hK
  by_cases e : 0 ≤ x ∧ x ≤ 100
  · refine K4_chg hh ?_ ?_ (m_X4_arm l G base sc td q nc cf pl S mem hp hC x e)
    · unfold r_armS
      rw [if_pos e]
      exact hR.arm e
    · rw [decide_eq_true e]; rfl
  · refine K4_same hC hh ?_ ?_ (m_X4_arm_2 l G base sc td q nc cf pl S mem hp hC x e)
    · unfold r_armS
      rw [if_neg e]
      exact hR
    · rw [decide_eq_false e]; rfl
theorem w4_ofPage (hK : KK G base r r hp) (x : Int32) : z_M l G base yX4_ofPage cX4_ofPage 3 (some .int) 2 0 0 [.ref (base + 0), .int x] hp (fun v hp' => v = some (.int (r_opA r x)) ∧ KK G base r r hp') := by
  obtain ⟨sc, td, q, nc, cf, pl, S, mem, xs, tl, hC, hh, hR⟩ := hK
  exact K4_same hC hh hR (hR.opA x) (m_X4_ofPage l G base sc td q nc cf pl S mem hp hC hR.X.q x)
theorem w4_block (hK : KK G base r r hp) (x : Int32) : z_M l G base yX4_block cX4_block 2 (some .int) 2 0 0 [.ref (base + 0), .int x] hp (fun v hp' => v = some (.int (oI (r_bk r x))) ∧ KK G base r r hp') := by
  obtain ⟨sc, td, q, nc, cf, pl, S, mem, xs, tl, hC, hh, hR⟩ := hK
  exact K4_same hC hh hR (by rw [hR.bk2 x]) (m_X4_block l G base sc td q nc cf pl S mem hp hC hR.X.q x)
theorem w4_order (hK : KK G base r r hp) (x : Int32) : z_M l G base yX4_order cX4_order 2 (some .int) 2 0 0 [.ref (base + 0), .int x] hp (fun v hp' => v = some (.int (r_orA r x)) ∧ KK G base r r hp') := by
  obtain ⟨sc, td, q, nc, cf, pl, S, mem, xs, tl, hC, hh, hR⟩ := hK
  exact K4_same hC hh hR (hR.orA x) (m_X4_order l G base sc td q nc cf pl S mem hp hC hR.X.q x)
theorem w4_freeBlocks (hK : KK G base r r hp) (x : Int32) : z_M l G base yX4_freeBlocks cX4_freeBlocks 2 (some .int) 1 0 0 [.ref (base + 0), .int x] hp (fun v hp' => v = some (.int (a_fb r x)) ∧ KK G base r r hp') := by
  obtain ⟨sc, td, q, nc, cf, pl, S, mem, xs, tl, hC, hh, hR⟩ := hK
  refine K4_same hC hh hR ?_ (m_X4_freeBlocks l G base sc td q nc cf pl S mem hp hC x)
  unfold a_fb
  by_cases e : 0 ≤ x ∧ x ≤ 6
  · rw [if_pos e, if_pos e]
    obtain ⟨k, hk, rfl⟩ := in_of (M := 6) (by decide) e
    rw [nI_clamp (by omega)]
    exact hR.fbA hk
  · rw [if_neg e, if_neg e]
theorem w4_ofCache (hK : KK G base r r hp) (x y : Int32) : z_M l G base yX4_ofCache cX4_ofCache 4 (some .int) 1 0 0 [.ref (base + 0), .int x, .int y] hp (fun v hp' => v = some (.int (r_ocA r x y)) ∧ KK G base r r hp') := by
  obtain ⟨sc, td, q, nc, cf, pl, S, mem, xs, tl, hC, hh, hR⟩ := hK
  exact K4_same hC hh hR (hR.ocA x y) (m_X4_ofCache l G base sc td q nc cf pl S mem hp hC hR.k.2.2 x y)
theorem w4_count (hK : KK G base r r hp) (x : Int32) : z_M l G base yX4_count cX4_count 2 (some .int) 2 0 0 [.ref (base + 0), .int x] hp (fun v hp' => v = some (.int (a_cn r x)) ∧ KK G base r r hp') := by
  obtain ⟨sc, td, q, nc, cf, pl, S, mem, xs, tl, hC, hh, hR⟩ := hK
  have h12 := hR.k.2.2
  refine K4_same hC hh hR ?_ (m_X4_count l G base sc td q nc cf pl S mem hp hC hR.k.2.2 x)
  unfold a_cn
  rw [hR.k.1, nI_clamp (by omega)]
  exact hR.cnA x
end
