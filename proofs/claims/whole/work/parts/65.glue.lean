/-! the two sides in one heap -/
theorem hpM_lo {G : z_G} {base : Nat} {xs : Nat → va_E} {r : r_T} {tl : List va_E} {i : Nat} (hi : i < 16) : (hpM G base xs r tl)[i]? = some (xs i) := by
  rcases (show i = 0 ∨ i = 1 ∨ i = 2 ∨ i = 3 ∨ i = 4 ∨ i = 5 ∨ i = 6 ∨ i = 7 ∨ i = 8 ∨ i = 9 ∨ i = 10 ∨ i = 11 ∨ i = 12 ∨ i = 13 ∨ i = 14 ∨ i = 15 by omega) with rfl | rfl | rfl | rfl | rfl | rfl | rfl | rfl | rfl | rfl | rfl | rfl | rfl | rfl | rfl | rfl <;> rfl
theorem hpM_mid {G : z_G} {base : Nat} {xs xs' : Nat → va_E} {r : r_T} {tl tl' : List va_E} {i : Nat} (h1 : 16 ≤ i) (hi : i < 30) : (hpM G base xs r tl)[i]? = (hpM G base xs' r tl')[i]? := by
  rcases (show i = 16 ∨ i = 17 ∨ i = 18 ∨ i = 19 ∨ i = 20 ∨ i = 21 ∨ i = 22 ∨ i = 23 ∨ i = 24 ∨ i = 25 ∨ i = 26 ∨ i = 27 ∨ i = 28 ∨ i = 29 by omega) with rfl | rfl | rfl | rfl | rfl | rfl | rfl | rfl | rfl | rfl | rfl | rfl | rfl | rfl <;> rfl
theorem hpM_hi {G : z_G} {base : Nat} {xs : Nat → va_E} {r : r_T} {tl : List va_E} (i : Nat) : (hpM G base xs r tl)[i + 30]? = tl[i]? := rfl
theorem hpM_oth {G : z_G} {base : Nat} {xs : Nat → va_E} {r r' : r_T} {tl : List va_E} {i : Nat} (hi : i < 16 ∨ 30 ≤ i) : (hpM G base xs r' tl)[i]? = (hpM G base xs r tl)[i]? := by
  rcases hi with h | h
  · rw [hpM_lo h, hpM_lo h]
  · obtain ⟨k, rfl⟩ : ∃ k, i = k + 30 := ⟨i - 30, by omega⟩
    rw [hpM_hi, hpM_hi]
theorem hpM_of {G : z_G} {base : Nat} {xs : Nat → va_E} {r : r_T} {tl hp' : List va_E} (h : C_fr (hpM G base xs r tl) hp') : ∃ (xs' : Nat → va_E) (tl' : List va_E), hp' = hpM G base xs' r tl' := by
  have hl : 30 ≤ hp'.length := Nat.le_trans (show 30 ≤ (hpM G base xs r tl).length by
    show 30 ≤ tl.length + 1 + 1 + 1 + 1 + 1 + 1 + 1 + 1 + 1 + 1 + 1 + 1 + 1 + 1 + 1 + 1 + 1 + 1 + 1 + 1 + 1 + 1 + 1 + 1 + 1 + 1 + 1 + 1 + 1 + 1
    omega) h.2
  refine ⟨fun i => hp'[i]?.getD (q_oM base), hp'.drop 30, ?_⟩
  apply List.ext_getElem?
  intro i
  by_cases h1 : i < 16
  · rw [hpM_lo h1, List.getElem?_eq_getElem (by omega)]
    rfl
  · by_cases h2 : i < 30
    · rw [h.1 i (by omega) h2]
      exact hpM_mid (by omega) h2
    · obtain ⟨k, rfl⟩ : ∃ k, i = k + 30 := ⟨i - 30, by omega⟩
      rw [hpM_hi, List.getElem?_drop, Nat.add_comm]
theorem C_ok.ref {G : z_G} {base : Nat} {sc td : Nat → Int32} {q : q_T} {nc : Nat} {cf : Nat → Nat → Int32} {pl : Nat → Nat} {S : Nat → Option s_T} {mem : Nat → Nat} {xs : Nat → va_E} {r r' : r_T} {tl : List va_E} (h : C_ok G base sc td q nc cf pl S mem (hpM G base xs r tl)) : C_ok G base sc td q nc cf pl S mem (hpM G base xs r' tl) := by
  obtain ⟨h0, h1, ⟨f, h2, hm⟩, ⟨h3, h4, h5, h6, h7⟩, h8, h9, ⟨hc, hci⟩, ⟨hs, hsi⟩, hl⟩ := h
  refine ⟨(hpM_oth (by omega)).trans h0, (hpM_oth (by omega)).trans h1, ⟨f, (hpM_oth (by omega)).trans h2, hm⟩, ⟨(hpM_oth (by omega)).trans h3, (hpM_oth (by omega)).trans h4, (hpM_oth (by omega)).trans h5, (hpM_oth (by omega)).trans h6, (hpM_oth (by omega)).trans h7⟩, (hpM_oth (by omega)).trans h8, (hpM_oth (by omega)).trans h9, ⟨fun c hcn => ?_, hci⟩, ⟨fun p s hp => ?_, hsi⟩, hl⟩
  · have := hc c hcn
    exact ⟨(hpM_oth (by omega)).trans this.1, this.2⟩
  · have := hs p s hp
    exact ⟨(hpM_oth (by omega)).trans this.1, (hpM_oth (by omega)).trans this.2.1, this.2.2⟩
/-- the class stands where the reference would stand at r', the reference stands at r -/
def KK (G : z_G) (base : Nat) (r' r : r_T) (hp : List va_E) : Prop := ∃ (sc td : Nat → Int32) (q : q_T) (nc : Nat) (cf : Nat → Nat → Int32) (pl : Nat → Nat) (S : Nat → Option s_T) (mem : Nat → Nat) (xs : Nat → va_E) (tl : List va_E), C_ok G base sc td q nc cf pl S mem hp ∧ hp = hpM G base xs r tl ∧ RLQ sc td q nc cf S mem r'
/-- a state of the reference that a state of the class belongs to -/
def VV (r : r_T) : Prop := ∃ (sc td : Nat → Int32) (q : q_T) (nc : Nat) (cf : Nat → Nat → Int32) (S : Nat → Option s_T) (mem : Nat → Nat), RLQ sc td q nc cf S mem r
theorem KK.V {G : z_G} {base : Nat} {r' r : r_T} {hp : List va_E} (h : KK G base r' r hp) : VV r' := by
  obtain ⟨sc, td, q, nc, cf, pl, S, mem, xs, tl, -, -, h⟩ := h
  exact ⟨_, _, _, _, _, _, _, h⟩
section
variable {l : Launch} {G : z_G} {base : Nat} {y : MethodName} {bc : ByteArray} {mL : Nat} {rt : Option FieldType} {d mc ms : Nat} {as : List Value} {hp : List va_E} {r r' r2 : r_T} {a a' : Int32}
theorem KK.chg {sc td : Nat → Int32} {q : q_T} {nc : Nat} {cf : Nat → Nat → Int32} {pl : Nat → Nat} {S : Nat → Option s_T} {mem : Nat → Nat} {xs : Nat → va_E} {tl hp' : List va_E} (hh : hp = hpM G base xs r tl) (hC : C_ok G base sc td q nc cf pl S mem hp') (hf : C_fr hp hp') (hR : RLQ sc td q nc cf S mem r') : KK G base r' r hp' := by
  subst hh
  obtain ⟨xs', tl', e⟩ := hpM_of hf
  exact ⟨_, _, _, _, _, _, _, _, xs', tl', hC, e, hR⟩
theorem K4_same {sc td : Nat → Int32} {q : q_T} {nc : Nat} {cf : Nat → Nat → Int32} {pl : Nat → Nat} {S : Nat → Option s_T} {mem : Nat → Nat} {xs : Nat → va_E} {tl : List va_E} (hC : C_ok G base sc td q nc cf pl S mem hp) (hh : hp = hpM G base xs r tl) (hR : RLQ sc td q nc cf S mem r') (ha : a = a') (h : z_M l G base y bc mL rt d mc ms as hp (fun v hp' => v = some (.int a) ∧ hp' = hp)) : z_M l G base y bc mL rt d mc ms as hp (fun v hp' => v = some (.int a') ∧ KK G base r' r hp') :=
  h.mono (fun v hp' g => ⟨by rw [g.1, ha], by rw [g.2]; exact ⟨_, _, _, _, _, _, _, _, _, _, hC, hh, hR⟩⟩)
theorem K4_chg {sc td : Nat → Int32} {q : q_T} {nc : Nat} {cf : Nat → Nat → Int32} {pl : Nat → Nat} {S : Nat → Option s_T} {mem : Nat → Nat} {xs : Nat → va_E} {tl : List va_E} (hh : hp = hpM G base xs r tl) (hR : RLQ sc td q nc cf S mem r') (ha : a = a') (h : z_M l G base y bc mL rt d mc ms as hp (fun v hp' => v = some (.int a) ∧ C_ok G base sc td q nc cf pl S mem hp' ∧ C_fr hp hp')) : z_M l G base y bc mL rt d mc ms as hp (fun v hp' => v = some (.int a') ∧ KK G base r' r hp') :=
  h.mono (fun v hp' g => ⟨by rw [g.1, ha], KK.chg hh g.2.1 g.2.2 hR⟩)
theorem K5 (hK : KK G base r' r hp) (h : ∀ xs tl, z_M l G base y bc mL rt d mc ms as (hpM G base xs r tl) (fun v hp' => v = some (.int a) ∧ hp' = hpM G base xs r2 tl)) : z_M l G base y bc mL rt d mc ms as hp (fun v hp' => v = some (.int a) ∧ KK G base r' r2 hp') := by
  obtain ⟨sc, td, q, nc, cf, pl, S, mem, xs, tl, hC, rfl, hR⟩ := hK
  exact (h xs tl).mono (fun v hp' g => ⟨g.1, by rw [g.2]; exact ⟨_, _, _, _, _, _, _, _, _, _, hC.ref, rfl, hR⟩⟩)
end
theorem T_take_ex {nc : Nat} {q : q_T} {cf : Nat → Nat → Int32} {S : Nat → Option s_T} {kt ko kb : Nat → Nat} (hX : X_ok nc q cf S kt ko kb) (sc : Nat → Int32) {c : Nat} (hc : c < nc) : ∃ x sc' q' cf' S', T_take kt ko kb sc q cf S c x sc' q' cf' S' := by
  cases e : c_part q S c with
  | some P =>
    obtain ⟨h1, j, r, n, ob, f, w, h2, h3, h4, h5⟩ := c_part_some e
    exact ⟨_, _, _, _, _, Or.inl ⟨P, j, r, n, ob, f, w, Or.inl e, h1, h2, h4, rfl, rfl, rfl, rfl, rfl⟩⟩
  | none =>
    rcases hX.em c hc with h8 | ⟨E, j, r, n, ob, f, w, h1, h2, h3, h4, h5⟩
    · cases e2 : j_take sc q (ko c) with
      | none => exact ⟨_, _, _, _, _, Or.inr (Or.inl ⟨e, h8, e2, rfl, rfl, rfl, rfl, rfl⟩)⟩
      | some P => exact ⟨_, _, _, _, _, Or.inr (Or.inr ⟨P, 0, 0, fun i => kb c - 1 - i, e, h8, e2, (j_take_lt e2).1, fun _ _ => rfl, rfl, rfl, rfl, rfl, rfl⟩)⟩
    · exact ⟨_, _, _, _, _, Or.inl ⟨E, j, r, n, ob, f, w, Or.inr ⟨e, h2⟩, h1, h3, h4, rfl, rfl, rfl, rfl, rfl⟩⟩
theorem T_kind_ex {nc : Nat} {q : q_T} {cf : Nat → Nat → Int32} {S : Nat → Option s_T} {kt ko kb : Nat → Nat} (hX : X_ok nc q cf S kt ko kb) (sc : Nat → Int32) (k : Nat) : ∃ x sc' q' cf' S', T_kind kt ko kb sc q cf S k x sc' q' cf' S' := by
  have h6 := hX.n6
  by_cases hk : k < 6
  · obtain ⟨x, sc', q', cf', S', h⟩ := T_take_ex hX sc (c := k) (by omega)
    exact ⟨x, sc', q', cf', S', Or.inl ⟨hk, h⟩⟩
  · exact ⟨_, _, _, _, _, Or.inr ⟨by omega, rfl, rfl, rfl, rfl, rfl⟩⟩
