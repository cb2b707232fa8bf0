/-- a step back that leaves the state good -/
theorem X_ok.gv {nc : Nat} {q : q_T} {cf : Nat → Nat → Int32} {S : Nat → Option s_T} {kt ko kb : Nat → Nat} (h : X_ok nc q cf S kt ko kb) {c P j r n i : Nat} {f : Nat → Nat} {w w' : Int64} (hc : c < nc) (hS : S P = some (j, r, n, kb c, f, w)) (hn : n < kb c) (hi : i < kb c) (hb : kb c ≤ 64) : X_ok nc q (va_up cf c (upd (cf c) 7 (cf c 7 - 1))) (va_up S P (some (j, r, n + 1, kb c, va_up f n i, w'))) kt ko kb := by
  obtain ⟨h1, h2, h3, h4, h5, h6, h7, h8⟩ := h
  refine ⟨h1, h2, h3, fun c' hc' => ?_, fun p j' r' n' ob' f' w'' hp => ?_, h6, h7, fun c' hc' => ?_⟩
  · by_cases he : c' = c
    · subst he
      rw [va_up_self]
      exact h4 c' hc'
    · rw [va_up_ne _ _ he]
      exact h4 c' hc'
  · by_cases he : p = P
    · subst he
      rw [va_up_self] at hp
      cases hp
      refine ⟨by omega, by omega, fun k hk => ?_⟩
      unfold va_up
      split
      · omega
      · exact (h5 _ _ _ _ _ _ _ hS).2.2 k (by omega)
    · rw [va_up_ne _ _ he] at hp
      exact h5 _ _ _ _ _ _ _ hp
  · have h9 : (va_up cf c (upd (cf c) 7 (cf c 7 - 1))) c' 8 = cf c' 8 := by
      by_cases he : c' = c
      · subst he
        rw [va_up_self]
        rfl
      · rw [va_up_ne _ _ he]
    rw [h9]
    rcases h8 c' hc' with g | ⟨E, j1, r1, n1, ob1, f1, w1, g1, g2, g3, g4, g5⟩
    · exact Or.inl g
    · by_cases he : E = P
      · subst he
        exact Or.inr ⟨E, _, _, _, _, _, _, g1, g2, va_up_self _ _ _, by omega, g5⟩
      · exact Or.inr ⟨E, _, _, _, _, _, _, g1, g2, by rw [va_up_ne _ _ he]; exact g3, g4, g5⟩
