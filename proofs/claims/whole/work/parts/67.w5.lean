/-! the reference's calls -/
section
variable {l : Launch} {G : z_G} {base : Nat} {hp : List va_E} {r r' : r_T}
theorem w5_usable (hV : VV r) (hK : KK G base r' r hp) (x y : Int32) : z_M l G base yX5_usable cX5_usable 4 (some .boolean) 1 0 0 [.ref (base + 16), .int x, .int y] hp (fun v hp' => v = some (.int (bI (r_usB r x y))) ∧ KK G base r' (r_usS r x y) hp') :=
  K5 hK (fun xs tl => m_X5_usable l G base xs r tl x y)
theorem w5_start (hV : VV r) (hK : KK G base r' r hp) : z_M l G base yX5_start cX5_start 3 (some .int) 1 0 0 [.ref (base + 16)] hp (fun v hp' => v = some (.int (a_st r)) ∧ KK G base r' (n_st r) hp') := by
  obtain ⟨sc, td, q, nc, cf, S, mem, hR⟩ := hV
  unfold a_st n_st
  by_cases e : r.1 0 = 0
  · rw [if_pos e, if_pos e]
    exact K5 hK (fun xs tl => m_X5_start l G base xs r tl hR.W.1.1 e)
  · rw [if_neg e, if_neg e]
    exact K5 hK (fun xs tl => m_X5_start_2 l G base xs r tl e)
theorem w5_pages (hV : VV r) (hK : KK G base r' r hp) (x : Int32) : z_M l G base yX5_pages cX5_pages 2 (some .int) 5 0 0 [.ref (base + 16), .int x] hp (fun v hp' => v = some (.int (r_pgA r x)) ∧ KK G base r' (r_pgS r x) hp') := by
  obtain ⟨sc, td, q, nc, cf, S, mem, hR⟩ := hV
  exact K5 hK (fun xs tl => m_X5_pages l G base xs r tl hR.W.1.1 hR.W.1.2.1 hR.W.al x)
theorem w5_freePages (hV : VV r) (hK : KK G base r' r hp) (x : Int32) : z_M l G base yX5_freePages cX5_freePages 3 (some .int) 4 0 0 [.ref (base + 16), .int x] hp (fun v hp' => v = some (.int (r_fpA r x)) ∧ KK G base r' (r_fpS r x) hp') := by
  obtain ⟨sc, td, q, nc, cf, S, mem, hR⟩ := hV
  exact K5 hK (fun xs tl => m_X5_freePages l G base xs r tl hR.W.1.1 hR.W.1.2.1 hR.W.2.2.2.1 x)
theorem w5_cache (hV : VV r) (hK : KK G base r' r hp) (x y : Int32) : z_M l G base yX5_cache cX5_cache 4 (some .int) 1 0 0 [.ref (base + 16), .int x, .int y] hp (fun v hp' => v = some (.int (r_chA r x y)) ∧ KK G base r' (r_chS r x y) hp') := by
  obtain ⟨sc, td, q, nc, cf, S, mem, hR⟩ := hV
  exact K5 hK (fun xs tl => m_X5_cache l G base xs r tl x y nc hR.k.1 hR.k.2.2)
theorem w5_take (hV : VV r) (hK : KK G base r' r hp) (x : Int32) : z_M l G base yX5_take cX5_take 4 (some .int) 6 0 0 [.ref (base + 16), .int x] hp (fun v hp' => v = some (.int (a_tk r x)) ∧ KK G base r' (n_tk r x) hp') := by
  obtain ⟨sc, td, q, nc, cf, S, mem, hR⟩ := hV
  have h12 := hR.k.2.2
  have hW := hR.W
  unfold a_tk n_tk
  by_cases e : ¬ r.1 0 = 0 ∧ r_isc r x = true
  · rw [if_pos e, if_pos e]
    obtain ⟨c, hc, rfl⟩ := r_isc_true hR.k.1 h12 e.2
    rw [nI_clamp (by omega)]
    obtain ⟨k1, k2, k3, k4, k5⟩ := hW.2.1 c hc
    exact K5 hK (fun xs tl => m_X5_take l G base xs r tl hW.1.1 hW.1.2.1 hW.al c (by omega) k1 k2 k3 k5 e.1 e.2 hW.1.2.2.2 (fun p hp => hW.2.2.2.2.2.1 p c hp hc) (fun h0 => by
      obtain ⟨P, p1, p2, p3, -⟩ := hW.2.2.2.2.2.2 c hc h0
      exact ⟨P, p1, p2, p3⟩) k4)
  · rw [if_neg e, if_neg e]
    exact K5 hK (fun xs tl => m_X5_take_out l G base xs r tl x e)
theorem w5_give (hV : VV r) (hK : KK G base r' r hp) (x y : Int32) : z_M l G base yX5_give cX5_give 5 (some .int) 5 0 0 [.ref (base + 16), .int x, .int y] hp (fun v hp' => v = some (.int (r_gvA r x y)) ∧ KK G base r' (r_gvT r x y) hp') := by
  obtain ⟨sc, td, q, nc, cf, S, mem, hR⟩ := hV
  exact K5 hK (fun xs tl => m_X5_give l G base xs r tl nc hR.W x y)
theorem w5_shrink (hV : VV r) (hK : KK G base r' r hp) (x : Int32) : z_M l G base yX5_shrink cX5_shrink 3 (some .int) 4 0 0 [.ref (base + 16), .int x] hp (fun v hp' => v = some (.int (r_shA r x)) ∧ KK G base r' (r_shS r x) hp') := by
  obtain ⟨sc, td, q, nc, cf, S, mem, hR⟩ := hV
  have hW := hR.W
  exact K5 hK (fun xs tl => m_X5_shrink l G base xs r tl hW.1.1 hW.1.2.1 x nc hR.k.1 hR.k.2.2 (fun c hc h0 => by
    obtain ⟨P, p1, p2, -, p3⟩ := hW.2.2.2.2.2.2 c hc h0
    exact ⟨P, p1, p2, p3⟩))
theorem w5_alloc (hV : VV r) (hK : KK G base r' r hp) (x : Int32) : z_M l G base yX5_alloc cX5_alloc 4 (some .int) 7 0 0 [.ref (base + 16), .int x] hp (fun v hp' => v = some (.int (a_al r x)) ∧ KK G base r' (n_al r x) hp') := by
  obtain ⟨sc, td, q, nc, cf, S, mem, hR⟩ := hV
  unfold a_al n_al
  by_cases e : r_alB r x = true
  · rw [if_pos e, if_pos e]
    obtain ⟨e1, e2⟩ := of_decide_eq_true e
    obtain ⟨b, hb, hb2, rfl⟩ := b1_of (M := 4096) (by decide) e2
    rw [nI_clamp (by omega)]
    exact K5 hK (fun xs tl => m_X5_alloc l G base xs r tl nc hR.W b hb hb2 e1)
  · rw [if_neg e, if_neg e]
    exact K5 hK (fun xs tl => m_X5_alloc_out l G base xs r tl x e)
theorem w5_free (hV : VV r) (hK : KK G base r' r hp) (x : Int32) : z_M l G base yX5_free cX5_free 4 (some .int) 6 0 0 [.ref (base + 16), .int x] hp (fun v hp' => v = some (.int (r_szA r x)) ∧ KK G base r' (r_frS r x) hp') := by
  obtain ⟨sc, td, q, nc, cf, S, mem, hR⟩ := hV
  exact K5 hK (fun xs tl => m_X5_free l G base xs r tl nc hR.W x)
theorem w5_size (hV : VV r) (hK : KK G base r' r hp) (x : Int32) : z_M l G base yX5_size cX5_size 3 (some .int) 4 0 0 [.ref (base + 16), .int x] hp (fun v hp' => v = some (.int (r_szA r x)) ∧ KK G base r' r hp') := by
  obtain ⟨sc, td, q, nc, cf, S, mem, hR⟩ := hV
  exact K5 hK (fun xs tl => m_X5_size l G base xs r tl nc hR.W x)
theorem w5_resize (hV : VV r) (hK : KK G base r' r hp) (x y : Int32) : z_M l G base yX5_resize cX5_resize 8 (some .int) 8 0 0 [.ref (base + 16), .int x, .int y] hp (fun v hp' => v = some (.int (r_rsA r x y)) ∧ KK G base r' (r_rsS r x y) hp') := by
  obtain ⟨sc, td, q, nc, cf, S, mem, hR⟩ := hV
  have hW := hR.W
  rcases hR.ws x with ⟨g1, g2⟩ | ⟨a, P, rfl, hD⟩
  · rw [show r_rsA r x y = r_ca r x from if_pos g2, show r_rsS r x y = r from if_neg (fun z => (of_decide_eq_true z).1 g2)]
    exact K5 hK (fun xs tl => m_X5_resize_2 l G base xs r tl nc hW x y g2)
  · obtain ⟨g1, g2, g3⟩ := hR.dl hD
    have hka := c_ka_le hR.X g3
    have ha := hD.1
    have hn : ¬ r_ca r (nI a) < 0 := by rw [g2]; exact Int32.not_lt.mpr (nI_pos' (by omega))
    by_cases hy : 1 ≤ y ∧ y ≤ 4096
    · have hy' := hy
      obtain ⟨b, hb, hb2, rfl⟩ := b1_of (M := 4096) (by decide) hy'
      have hks := k_same b (by omega)
      have hcl := k_cls_le (b := b)
      by_cases hk : c_ka q P = k_cls b
      · have he : r_ca r (nI a) = nI (k_cls b) := by rw [g2, hk]
        have he' : r_ca r (nI a) = nI (k_cls (nI b).toNatClampNeg) := by rw [he, nI_clamp (by omega)]
        rw [show r_rsA r (nI a) (nI b) = nI a by unfold r_rsA; rw [if_neg hn, if_pos hy, if_pos he'], show r_rsS r (nI a) (nI b) = r from if_neg (fun z => (of_decide_eq_true z).2.2 he')]
        exact K5 hK (fun xs tl => m_X5_resize_4 l G base xs r tl nc hW (nI a) b hn hb hb2 he)
      · have he : ¬ r_ca r (nI a) = nI (k_cls (nI b).toNatClampNeg) := by
          rw [g2, nI_clamp (by omega), nI_eq (by omega) (by omega)]
          exact hk
        have hx := hR.ext hD
        obtain ⟨x', sc', q', cf', S', hT⟩ := T_kind_ex hR.X sc (k_kf b 12 0)
        obtain ⟨s1, s2, s3, s4, s5, s6, s7, s8, s9⟩ := hR.rsz hD hb2 (by rw [hks.1]; exact hk) hT
        have hst : ¬ r.1 0 = 0 := by rw [← hR.st]; exact hR.on (tu_pos hx.2.2.2.2).1
        rw [show r_rsA r (nI a) (nI b) = oI (r_alO r b) by unfold r_rsA; rw [if_neg hn, if_pos hy, if_neg he, nI_clamp (by omega)]]
        refine K5 hK (fun xs tl => m_X5_resize l G base xs r tl nc hW a (c_ka q P) b ha hka g2 hb hb2 hst hk s2.W ?_ ?_ (by omega))
        · rw [(s2.dl s3).2.1, s4]
        · intro t ht
          rw [ht] at s1
          rcases s8 with s8 | ⟨t', t1, t2, t3, t4, -⟩
          · exact absurd (show nI t = -1 from s1.symm.trans s8) (nI_m1 (s9 t ht))
          · have : t = t' := (nI_eq (s9 t ht) (by omega)).mp (show nI t = nI t' from s1.symm.trans t1)
            omega
    · rw [show r_rsA r (nI a) y = -1 by unfold r_rsA; rw [if_neg hn, if_neg hy], show r_rsS r (nI a) y = r from if_neg (fun z => hy (of_decide_eq_true z).2.1)]
      exact K5 hK (fun xs tl => m_X5_resize_3 l G base xs r tl nc hW (nI a) y hn hy)
theorem w5_read (hV : VV r) (hK : KK G base r' r hp) (x : Int32) : z_M l G base yX5_read cX5_read 2 (some .int) 2 0 0 [.ref (base + 16), .int x] hp (fun v hp' => v = some (.int (r_rdA r x)) ∧ KK G base r' r hp') :=
  K5 hK (fun xs tl => m_X5_read l G base xs r tl x)
theorem w5_write (hV : VV r) (hK : KK G base r' r hp) (x y : Int32) : z_M l G base yX5_write cX5_write 4 (some .int) 2 0 0 [.ref (base + 16), .int x, .int y] hp (fun v hp' => v = some (.int (r_rdA r x)) ∧ KK G base r' (r_wrS r x y) hp') :=
  K5 hK (fun xs tl => m_X5_write l G base xs r tl x y)
theorem w5_arm (hV : VV r) (hK : KK G base r' r hp) (x : Int32) : z_M l G base yX5_arm cX5_arm 2 (some .boolean) 1 0 0 [.ref (base + 16), .int x] hp (fun v hp' => v = some (.int (bI (decide (0 ≤ x ∧ x ≤ 100)))) ∧ KK G base r' (r_armS r x) hp') :=
  K5 hK (fun xs tl => m_X5_arm l G base xs r tl x)
theorem w5_ofPage (hV : VV r) (hK : KK G base r' r hp) (x : Int32) : z_M l G base yX5_ofPage cX5_ofPage 3 (some .int) 1 0 0 [.ref (base + 16), .int x] hp (fun v hp' => v = some (.int (r_opA r x)) ∧ KK G base r' r hp') := by
  obtain ⟨sc, td, q, nc, cf, S, mem, hR⟩ := hV
  exact K5 hK (fun xs tl => m_X5_ofPage l G base xs r tl hR.W.1.1 x)
theorem w5_block (hV : VV r) (hK : KK G base r' r hp) (x : Int32) : z_M l G base yX5_block cX5_block 2 (some .int) 1 0 0 [.ref (base + 16), .int x] hp (fun v hp' => v = some (.int (oI (r_bk r x))) ∧ KK G base r' r hp') :=
  K5 hK (fun xs tl => m_X5_block l G base xs r tl x)
theorem w5_order (hV : VV r) (hK : KK G base r' r hp) (x : Int32) : z_M l G base yX5_order cX5_order 3 (some .int) 2 0 0 [.ref (base + 16), .int x] hp (fun v hp' => v = some (.int (r_orA r x)) ∧ KK G base r' r hp') := by
  obtain ⟨sc, td, q, nc, cf, S, mem, hR⟩ := hV
  exact K5 hK (fun xs tl => m_X5_order l G base xs r tl hR.W.1.1 x)
theorem w5_freeBlocks (hV : VV r) (hK : KK G base r' r hp) (x : Int32) : z_M l G base yX5_freeBlocks cX5_freeBlocks 4 (some .int) 3 0 0 [.ref (base + 16), .int x] hp (fun v hp' => v = some (.int (a_fb r x)) ∧ KK G base r' r hp') := by
  obtain ⟨sc, td, q, nc, cf, S, mem, hR⟩ := hV
  unfold a_fb
  by_cases e : 0 ≤ x ∧ x ≤ 6
  · rw [if_pos e]
    obtain ⟨k, hk, rfl⟩ := in_of (M := 6) (by decide) e
    rw [nI_clamp (by omega)]
    exact K5 hK (fun xs tl => m_X5_freeBlocks l G base xs r tl hR.W.1.1 hR.W.1.2.1 k hk)
  · rw [if_neg e]
    exact K5 hK (fun xs tl => m_X5_freeBlocks_out l G base xs r tl x e)
theorem w5_ofCache (hV : VV r) (hK : KK G base r' r hp) (x y : Int32) : z_M l G base yX5_ofCache cX5_ofCache 3 (some .int) 4 0 0 [.ref (base + 16), .int x, .int y] hp (fun v hp' => v = some (.int (r_ocA r x y)) ∧ KK G base r' r hp') := by
  obtain ⟨sc, td, q, nc, cf, S, mem, hR⟩ := hV
  exact K5 hK (fun xs tl => m_X5_ofCache l G base xs r tl nc hR.W x y)
theorem w5_count (hV : VV r) (hK : KK G base r' r hp) (x : Int32) : z_M l G base yX5_count cX5_count 4 (some .int) 4 0 0 [.ref (base + 16), .int x] hp (fun v hp' => v = some (.int (a_cn r x)) ∧ KK G base r' r hp') := by
  obtain ⟨sc, td, q, nc, cf, S, mem, hR⟩ := hV
  have h12 := hR.k.2.2
  unfold a_cn
  rw [hR.k.1, nI_clamp (by omega)]
  exact K5 hK (fun xs tl => m_X5_count l G base xs r tl nc hR.W x)
end
/-! at the start -/
theorem r_ac_at (r : r_T) (nc b a : Nat) : (r_ac r nc b a).2.1 5 = va_up (r.2.1 5) nc b ∧ (r_ac r nc b a).2.1 6 = va_up (r.2.1 6) nc a ∧ (r_ac r nc b a).2.1 7 = va_up (r.2.1 7) nc (k_str b a) ∧ (r_ac r nc b a).2.1 8 = va_up (r.2.1 8) nc (q_so (k_str b a) 4 0) ∧ (r_ac r nc b a).2.2 3 = upd (r.2.2 3) nc (-1) := by
  unfold r_ac
  dsimp only
  refine ⟨?_, ?_, ?_, ?_, ?_⟩
  · rw [va_up_ne _ _ (show (5 : Nat) ≠ 8 by decide), va_up_ne _ _ (show (5 : Nat) ≠ 7 by decide), va_up_ne _ _ (show (5 : Nat) ≠ 6 by decide), va_up_self]
  · rw [va_up_ne _ _ (show (6 : Nat) ≠ 8 by decide), va_up_ne _ _ (show (6 : Nat) ≠ 7 by decide), va_up_self]
  · rw [va_up_ne _ _ (show (7 : Nat) ≠ 8 by decide), va_up_self]
  · rw [va_up_self]
  · rw [va_up_self]
theorem r_ini_at : ∀ k, (r_ini k).2.2 0 = (fun _ => 0) ∧ (r_ini k).1 0 = 0 ∧ (∀ i, i ≠ 1 → (r_ini k).1 i = if i = 2 then -1 else 0) ∧ (∀ i, i < 5 → (r_ini k).2.1 i = fun _ => 0) ∧ (∀ c, c < k → (r_ini k).2.1 5 c = k_b c ∧ (r_ini k).2.1 6 c = k_a c ∧ (r_ini k).2.1 7 c = k_str (k_b c) (k_a c) ∧ (r_ini k).2.1 8 c = q_so (k_str (k_b c) (k_a c)) 4 0 ∧ (r_ini k).2.2 3 c = -1) := by
  intro k
  induction k with
  | zero => exact ⟨rfl, rfl, fun i _ => rfl, fun i _ => rfl, fun c h => by omega⟩
  | succ k ih =>
    obtain ⟨h1, h2, h3, h4, h5⟩ := ih
    refine ⟨?_, ?_, fun i hi => ?_, fun i hi => ?_, fun c hc => ?_⟩
    · show va_up (r_ini k).2.2 3 (upd ((r_ini k).2.2 3) k (-1)) 0 = _
      rw [va_up_ne _ _ (show (0 : Nat) ≠ 3 by decide)]
      exact h1
    · show upd (r_ini k).1 1 (nI (k + 1)) 0 = _
      rw [upd_ne _ _ (show (0 : Nat) ≠ 1 by decide)]
      exact h2
    · exact (upd_ne _ _ hi).trans (h3 i hi)
    · exact (va_up_ne _ _ (by omega)).trans ((va_up_ne _ _ (by omega)).trans ((va_up_ne _ _ (by omega)).trans ((va_up_ne _ _ (by omega)).trans (h4 i hi))))
    · have g := r_ac_at (r_ini k) k (8 * 2 ^ k) (min (8 * 2 ^ k) 64)
      show (r_ac (r_ini k) k (8 * 2 ^ k) (min (8 * 2 ^ k) 64)).2.1 5 c = _ ∧ (r_ac (r_ini k) k (8 * 2 ^ k) (min (8 * 2 ^ k) 64)).2.1 6 c = _ ∧ (r_ac (r_ini k) k (8 * 2 ^ k) (min (8 * 2 ^ k) 64)).2.1 7 c = _ ∧ (r_ac (r_ini k) k (8 * 2 ^ k) (min (8 * 2 ^ k) 64)).2.1 8 c = _ ∧ (r_ac (r_ini k) k (8 * 2 ^ k) (min (8 * 2 ^ k) 64)).2.2 3 c = _
      rw [g.1, g.2.1, g.2.2.1, g.2.2.2.1, g.2.2.2.2]
      by_cases e : c = k
      · subst e
        rw [va_up_self, va_up_self, va_up_self, va_up_self, upd_self]
        exact ⟨rfl, rfl, rfl, rfl, rfl⟩
      · rw [va_up_ne _ _ e, va_up_ne _ _ e, va_up_ne _ _ e, va_up_ne _ _ e, upd_ne _ _ e]
        exact h5 c (by omega)
theorem k_0 : ∀ c, c < 6 → k_str (k_b c) (k_a c) = 8 * 2 ^ c ∧ q_so (k_str (k_b c) (k_a c)) 4 0 ≤ 4 ∧ 1 ≤ 64 * 2 ^ q_so (k_str (k_b c) (k_a c)) 4 0 / k_str (k_b c) (k_a c) ∧ 64 * 2 ^ q_so (k_str (k_b c) (k_a c)) 4 0 / k_str (k_b c) (k_a c) ≤ 64 ∧ 8 * 2 ^ c < 65536 := by decide +kernel
theorem RLQ_0 : RLQ s_0 (fun _ => 0) q_0 6 (fun c => k_cf c (k_b c) (k_a c)) (fun _ => none) (fun _ => 0) (r_ini 6) := by
  obtain ⟨h1, h2, h3, h4, h5⟩ := r_ini_at 6
  have hob : ∀ c, c < 6 → r_ob (r_ini 6) c = 64 * 2 ^ q_so (k_str (k_b c) (k_a c)) 4 0 / k_str (k_b c) (k_a c) := fun c hc => by
    unfold r_ob
    rw [(h5 c hc).2.2.1, (h5 c hc).2.2.2.1]
  have hU : r_sum (gU (fun _ => 0)) 256 = 0 := r_sum_0 256 (fun p _ => if_pos rfl)
  refine ⟨⟨⟨?_, Or.inl rfl⟩, ⟨h1.symm, fun _ => Or.inl rfl⟩, ?_, ?_, ?_, ?_, ?_, ⟨?_, Or.inl rfl⟩, r_ini_1 6, by decide, by decide⟩, ⟨⟨fun _ => Nat.zero_le _, fun _ => Nat.zero_le _⟩, ⟨fun p => ?_, fun p => ?_⟩, ⟨0, ⟨fun j hj => ?_, ?_⟩, rfl⟩, fun _ => rfl, fun z => absurd rfl z⟩, ⟨fun p hp h => ?_, fun p j r n ob f w hp => ?_, fun i => ?_, fun p => ?_⟩, fun c hc => ?_, ?_⟩
  · rw [h2]; rfl
  · rw [hU]; rfl
  · rw [h3 6 (by decide)]; rfl
  · rw [h3 3 (by decide)]; rfl
  · rw [h3 4 (by decide)]; rfl
  · rw [h3 5 (by decide)]; rfl
  · rw [h3 2 (by decide)]; rfl
  · rw [h4 1 (by decide)]; exact (by decide : (0 : Nat) < 256)
  · rw [h4 2 (by decide)]; exact Nat.zero_le _
  · have e : r_sum (cF q_0.1 q_0.2.1 j) 256 = 0 := r_sum_0 256 (fun p _ => by
      unfold cF
      exact if_neg (fun z => by have z1 : (0 : Nat) = j + 1 := z.1; omega))
    rw [e]; rfl
  · exact r_sum_0 256 (fun p _ => if_neg (fun z => z.1 rfl))
  · have z1 : 2 ≤ (0 : Nat) := h
    omega
  · cases hp
  · rw [h4 3 (by decide)]; exact (by decide : (0 : Nat) < 65536)
  · rw [h4 4 (by decide)]; exact Nat.zero_le _
  · obtain ⟨a5, a6, a7, a8, a9⟩ := h5 c hc
    obtain ⟨k1, k2, k3, k4, k5⟩ := k_0 c hc
    refine ⟨⟨rfl, by rw [a5]; rfl, by rw [a6]; rfl, by rw [a7]; rfl, by rw [a8]; rfl, by rw [hob c hc]; rfl⟩, ⟨?_, ?_, ?_, ?_, ?_, fun _ => by rw [a7, k1]⟩, ?_, ?_, by rw [a9]; rfl, Or.inl rfl⟩
    · rw [a7, k1]
      have := Nat.two_pow_pos c
      omega
    · rw [a7, k1]; exact k5
    · rw [a8]; exact k2
    · rw [hob c hc]; exact k3
    · rw [hob c hc]; exact k4
    · have e : r_sum (gS (tu q_0) c) 256 = 0 := r_sum_0 256 (fun p _ => by
        unfold gS
        exact if_neg (fun z => by have z1 : (0 : Nat) = 2 + c := z; omega))
      rw [e]; rfl
    · have e : r_sum (gL (tu q_0) (r_ini 6) c) 256 = 0 := r_sum_0 256 (fun p _ => by
        unfold gL
        exact if_neg (fun z => by have z1 : (0 : Nat) = 2 + c := z; omega))
      rw [e]; rfl
  · rw [h4 0 (by decide)]
def xs_c (G : z_G) (base : Nat) : Nat → va_E := fun i => (hp_c G base)[i]?.getD (q_oM base)
theorem KK_0 (G : z_G) (base : Nat) : KK G base (r_ini 6) (r_ini 6) (hpM G base (xs_c G base) (r_ini 6) []) := by
  refine ⟨_, _, _, _, _, pl_0, _, _, _, _, ?_, rfl, RLQ_0⟩
  refine ⟨rfl, rfl, ⟨fun _ => 0, rfl, ?_⟩, ⟨rfl, rfl, rfl, rfl, rfl⟩, rfl, rfl, ⟨fun c hc => ⟨?_, by unfold pl_0; omega, by unfold pl_0; omega⟩, fun c c' _ _ h => by unfold pl_0 at h; omega⟩, ⟨fun p s h => (by cases h), fun p p' s s' h => (by cases h)⟩, Nat.le_refl 30⟩
  · intro a _
    refine ⟨(by decide : (0 : Nat) < 256), fun i _ => ?_⟩
    rw [Nat.zero_testBit]
    exact BitVec.getLsbD_zero
  · rcases (show c = 0 ∨ c = 1 ∨ c = 2 ∨ c = 3 ∨ c = 4 ∨ c = 5 by omega) with rfl | rfl | rfl | rfl | rfl | rfl <;> rfl
