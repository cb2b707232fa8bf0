/-! the class's heap: fixed places, caches and slabs wherever they lie -/
theorem z_M.mono {l : Launch} {G : z_G} {base : Nat} {y : MethodName} {bc : ByteArray} {mL : Nat} {rt : Option FieldType} {d mc ms : Nat} {as : List Value} {hp : List va_E} {post post' : Option Value → List va_E → Prop} (h : z_M l G base y bc mL rt d mc ms as hp post) (hi : ∀ v hp', post v hp' → post' v hp') : z_M l G base y bc mL rt d mc ms as hp post' := by
  intro p e h1 h2 h3 s m args below h4 h5 h6 h7
  obtain ⟨n, o, g1, g2, g3, ⟨⟨v, hp', e1, e2, e3⟩, g5⟩, g6⟩ := h p e h1 h2 h3 s m args below h4 h5 h6 h7
  exact ⟨n, o, g1, g2, g3, ⟨⟨v, hp', e1, hi v hp' e2, e3⟩, g5⟩, g6⟩
abbrev s_T : Type := Nat × Nat × Nat × Nat × (Nat → Nat) × Int64
def q_oP (base nc : Nat) : va_E := .inr (4, [.ref (base + 1), .ref (base + 3), .ref (base + 8), .ref (base + 9), .int (nI nc)])
def q_aR (G : z_G) (t n : Nat) (f : Nat → Option Nat) : va_E := .inl (G.2 t, n, .inr (.inr (.inr (.inr f))))
def c_sl (base : Nat) (S : Nat → Option s_T) : Nat → Option Nat := fun p => (S p).map (fun s => base + s.1)
def c_ca (base nc : Nat) (pl : Nat → Nat) : Nat → Option Nat := fun c => if c < nc then some (base + pl c) else none
def c_isB (G : z_G) (base : Nat) (sc td : Nat → Int32) (q : q_T) (hp : List va_E) : Prop := hp[3]? = some (q_oB base sc) ∧ hp[4]? = some (q_aZ G 256 td) ∧ hp[5]? = some (q_aI G 256 q.1) ∧ hp[6]? = some (q_aI G 256 q.2.1) ∧ hp[7]? = some (q_aJ G 7 q.2.2)
def C_ok (G : z_G) (base : Nat) (sc td : Nat → Int32) (q : q_T) (nc : Nat) (cf : Nat → Nat → Int32) (pl : Nat → Nat) (S : Nat → Option s_T) (mem : Nat → Nat) (hp : List va_E) : Prop :=
  hp[0]? = some (q_oP base nc) ∧ hp[1]? = some (q_oM base) ∧ (∃ f, hp[2]? = some (q_aL G 2048 f) ∧ q_Mb f mem) ∧ c_isB G base sc td q hp ∧
  hp[8]? = some (q_aR G 3 256 (c_sl base S)) ∧ hp[9]? = some (q_aR G 4 12 (c_ca base nc pl)) ∧
  ((∀ c, c < nc → hp[pl c]? = some (q_oC (cf c)) ∧ 10 ≤ pl c ∧ (pl c < 16 ∨ 30 ≤ pl c)) ∧ ∀ c c', c < nc → c' < nc → pl c = pl c' → c = c') ∧
  ((∀ p s, S p = some s → hp[s.1]? = some (q_oS s.2.1 s.2.2.1 s.2.2.2.1 s.2.2.2.2.2 base) ∧ hp[s.2.1]? = some (q_aI G 64 s.2.2.2.2.1) ∧ 30 ≤ s.1 ∧ 30 ≤ s.2.1) ∧ ∀ p p' s s', S p = some s → S p' = some s' → (s.1 = s'.1 ∨ s.2.1 = s'.2.1) → p = p') ∧ 30 ≤ hp.length
/-- the reference's cells stay -/
def C_fr (hp hp' : List va_E) : Prop := (∀ i, 16 ≤ i → i < 30 → hp'[i]? = hp[i]?) ∧ hp.length ≤ hp'.length
theorem C_fr.rf (hp : List va_E) : C_fr hp hp := ⟨fun _ _ _ => rfl, Nat.le_refl _⟩
theorem C_fr.tr {a b c : List va_E} (h : C_fr a b) (k : C_fr b c) : C_fr a c := ⟨fun i h1 h2 => (k.1 i h1 h2).trans (h.1 i h1 h2), Nat.le_trans h.2 k.2⟩
theorem C_fr.set {a b : List va_E} {i : Nat} {e : va_E} (h : C_fr a b) (hi : i < 16 ∨ 30 ≤ i) : C_fr a (b.set i e) := ⟨fun j h1 h2 => by rw [List.getElem?_set_ne (by omega)]; exact h.1 j h1 h2, by rw [List.length_set]; exact h.2⟩
theorem c_cut {G : z_G} {base : Nat} {sc td : Nat → Int32} {q : q_T} {hp : List va_E} (h : c_isB G base sc td q hp) (hl : 8 ≤ hp.length) : ∃ (xs : Nat → va_E) (tl : List va_E), hp = hpB G base xs sc td q tl := by
  obtain ⟨h3, h4, h5, h6, h7⟩ := h
  match hp, hl with
  | x0 :: x1 :: x2 :: x3 :: x4 :: x5 :: x6 :: x7 :: tl, _ =>
    refine ⟨fun i => if i = 0 then x0 else if i = 1 then x1 else x2, tl, ?_⟩
    cases h3; cases h4; cases h5; cases h6; cases h7
    rfl
theorem hpB_oth {G : z_G} {base : Nat} {xs : Nat → va_E} {sc td sc' td' : Nat → Int32} {q q' : q_T} {tl : List va_E} {i : Nat} (hi : i < 3 ∨ 8 ≤ i) : (hpB G base xs sc' td' q' tl)[i]? = (hpB G base xs sc td q tl)[i]? := by
  rcases hi with h | h
  · rcases (show i = 0 ∨ i = 1 ∨ i = 2 by omega) with rfl | rfl | rfl <;> rfl
  · obtain ⟨k, rfl⟩ : ∃ k, i = k + 8 := ⟨i - 8, by omega⟩
    rfl
theorem C_ok.blk {G : z_G} {base : Nat} {sc td sc' td' : Nat → Int32} {q q' : q_T} {nc : Nat} {cf : Nat → Nat → Int32} {pl : Nat → Nat} {S : Nat → Option s_T} {mem : Nat → Nat} {xs : Nat → va_E} {tl : List va_E} (h : C_ok G base sc td q nc cf pl S mem (hpB G base xs sc td q tl)) : C_ok G base sc' td' q' nc cf pl S mem (hpB G base xs sc' td' q' tl) := by
  obtain ⟨h0, h1, ⟨f, h2, hm⟩, -, h8, h9, ⟨hc, hci⟩, ⟨hs, hsi⟩, hl⟩ := h
  refine ⟨(hpB_oth (by omega)).trans h0, (hpB_oth (by omega)).trans h1, ⟨f, (hpB_oth (by omega)).trans h2, hm⟩, ⟨rfl, rfl, rfl, rfl, rfl⟩, (hpB_oth (by omega)).trans h8, (hpB_oth (by omega)).trans h9, ⟨fun c hcn => ?_, hci⟩, ⟨fun p s hp => ?_, hsi⟩, hl⟩
  · have := hc c hcn
    exact ⟨(hpB_oth (by omega)).trans this.1, this.2⟩
  · have := hs p s hp
    exact ⟨(hpB_oth (by omega)).trans this.1, (hpB_oth (by omega)).trans this.2.1, this.2.2⟩
theorem hpB_fr {G : z_G} {base : Nat} {xs : Nat → va_E} {sc td sc' td' : Nat → Int32} {q q' : q_T} {tl : List va_E} : C_fr (hpB G base xs sc td q tl) (hpB G base xs sc' td' q' tl) := ⟨fun i h1 h2 => hpB_oth (by omega), Nat.le_refl _⟩
/-- a method of the blocks, seen from the class -/
theorem C_lift {l : Launch} {G : z_G} {base : Nat} {y : MethodName} {bc : ByteArray} {mL : Nat} {rt : Option FieldType} {d : Nat} {as : List Value} {sc td sc' td' : Nat → Int32} {q q' : q_T} {nc : Nat} {cf : Nat → Nat → Int32} {pl : Nat → Nat} {S : Nat → Option s_T} {mem : Nat → Nat} {hp : List va_E} {v : Option Value} (hC : C_ok G base sc td q nc cf pl S mem hp)
    (h : ∀ xs tl, z_M l G base y bc mL rt d 0 0 as (hpB G base xs sc td q tl) (fun v' hp' => v' = v ∧ hp' = hpB G base xs sc' td' q' tl)) : z_M l G base y bc mL rt d 0 0 as hp (fun v' hp' => v' = v ∧ C_ok G base sc' td' q' nc cf pl S mem hp' ∧ C_fr hp hp') := by
  have h30 := hC.2.2.2.2.2.2.2.2
  obtain ⟨xs, tl, rfl⟩ := c_cut hC.2.2.2.1 (by omega)
  exact (h xs tl).mono (fun v' hp' hq => ⟨hq.1, by rw [hq.2]; exact hC.blk, by rw [hq.2]; exact hpB_fr⟩)
theorem C_same {l : Launch} {G : z_G} {base : Nat} {y : MethodName} {bc : ByteArray} {mL : Nat} {rt : Option FieldType} {d : Nat} {as : List Value} {sc td : Nat → Int32} {q : q_T} {nc : Nat} {cf : Nat → Nat → Int32} {pl : Nat → Nat} {S : Nat → Option s_T} {mem : Nat → Nat} {hp : List va_E} {v : Option Value} (hC : C_ok G base sc td q nc cf pl S mem hp)
    (h : ∀ xs tl, z_M l G base y bc mL rt d 0 0 as (hpB G base xs sc td q tl) (fun v' hp' => v' = v ∧ hp' = hpB G base xs sc td q tl)) : z_M l G base y bc mL rt d 0 0 as hp (fun v' hp' => v' = v ∧ hp' = hp) := by
  have h30 := hC.2.2.2.2.2.2.2.2
  obtain ⟨xs, tl, rfl⟩ := c_cut hC.2.2.2.1 (by omega)
  exact h xs tl
/-- a cache's fields change -/
theorem C_ok.setc {G : z_G} {base : Nat} {sc td : Nat → Int32} {q : q_T} {nc : Nat} {cf : Nat → Nat → Int32} {pl : Nat → Nat} {S : Nat → Option s_T} {mem : Nat → Nat} {hp : List va_E} (h : C_ok G base sc td q nc cf pl S mem hp) {c : Nat} (hcn : c < nc) (g : Nat → Int32) : C_ok G base sc td q nc (va_up cf c g) pl S mem (hp.set (pl c) (q_oC g)) := by
  obtain ⟨h0, h1, ⟨f, h2, hm⟩, ⟨h3, h4, h5, h6, h7⟩, h8, h9, ⟨hc, hci⟩, ⟨hs, hsi⟩, hl⟩ := h
  have hk := hc c hcn
  refine ⟨z_oth (by omega) h0, z_oth (by omega) h1, ⟨f, z_oth (by omega) h2, hm⟩, ⟨z_oth (by omega) h3, z_oth (by omega) h4, z_oth (by omega) h5, z_oth (by omega) h6, z_oth (by omega) h7⟩, z_oth (by omega) h8, z_oth (by omega) h9, ⟨fun c' hc' => ?_, hci⟩, ⟨fun p s hp => ?_, hsi⟩, by rw [List.length_set]; exact hl⟩
  · by_cases he : c' = c
    · subst he
      refine ⟨?_, hk.2⟩
      rw [va_up_self]
      exact z_self hk.1
    · refine ⟨?_, (hc c' hc').2⟩
      rw [va_up_ne _ _ he]
      exact z_oth (fun z => he (hci c' c hc' hcn z.symm)) (hc c' hc').1
  · have hsp := hs p s hp
    refine ⟨z_oth (fun z => ?_) hsp.1, z_oth (fun z => ?_) hsp.2.1, hsp.2.2⟩
    · have := hk.1.symm.trans (z ▸ hsp.1)
      cases this
    · have := hk.1.symm.trans (z ▸ hsp.2.1)
      cases this
/-- a slab's fields change -/
theorem C_ok.sets {G : z_G} {base : Nat} {sc td : Nat → Int32} {q : q_T} {nc : Nat} {cf : Nat → Nat → Int32} {pl : Nat → Nat} {S : Nat → Option s_T} {mem : Nat → Nat} {hp : List va_E} (h : C_ok G base sc td q nc cf pl S mem hp) {P j r n ob n' ob' : Nat} {f f' : Nat → Nat} {w w' : Int64} (hS : S P = some (j, r, n, ob, f, w)) : C_ok G base sc td q nc cf pl (va_up S P (some (j, r, n', ob', f', w'))) mem ((hp.set r (q_aI G 64 f')).set j (q_oS r n' ob' w' base)) := by
  obtain ⟨h0, h1, ⟨f0, h2, hm⟩, ⟨h3, h4, h5, h6, h7⟩, h8, h9, ⟨hc, hci⟩, ⟨hs, hsi⟩, hl⟩ := h
  obtain ⟨k1, k2, k3, k4⟩ := hs P _ hS
  dsimp only at k1 k2 k3 k4
  have hjr : j ≠ r := fun z => by
    rw [z] at k1
    have := k1.symm.trans k2
    cases this
  have oth : ∀ {i : Nat} {e : va_E}, i ≠ j → i ≠ r → hp[i]? = some e → ((hp.set r (q_aI G 64 f')).set j (q_oS r n' ob' w' base))[i]? = some e := fun a b c => z_oth (Ne.symm a) (z_oth (Ne.symm b) c)
  refine ⟨oth (by omega) (by omega) h0, oth (by omega) (by omega) h1, ⟨f0, oth (by omega) (by omega) h2, hm⟩, ⟨oth (by omega) (by omega) h3, oth (by omega) (by omega) h4, oth (by omega) (by omega) h5, oth (by omega) (by omega) h6, oth (by omega) (by omega) h7⟩, ?_, oth (by omega) (by omega) h9, ⟨fun c hcn => ?_, hci⟩, ⟨fun p s hp => ?_, fun p p' s s' hp hp' he => ?_⟩, by rw [List.length_set, List.length_set]; exact hl⟩
  · have e : c_sl base (va_up S P (some (j, r, n', ob', f', w'))) = c_sl base S := by
      funext p
      unfold c_sl va_up
      by_cases hp : p = P
      · rw [if_pos hp, hp, hS]; rfl
      · rw [if_neg hp]
    rw [e]
    exact oth (by omega) (by omega) h8
  · have := hc c hcn
    refine ⟨oth (fun z => ?_) (fun z => ?_) this.1, this.2⟩
    · rw [z] at this; have h9 := this.1.symm.trans k1; cases h9
    · rw [z] at this; have h9 := this.1.symm.trans k2; cases h9
  · by_cases hpP : p = P
    · subst hpP
      rw [va_up_self] at hp
      cases hp
      exact ⟨z_self (z_oth hjr.symm k1), z_oth hjr (z_self k2), k3, k4⟩
    · rw [va_up_ne _ _ hpP] at hp
      have g := hs p s hp
      refine ⟨oth (fun z => hpP (hsi p P s _ hp hS (Or.inl z))) (fun z => ?_) g.1, oth (fun z => ?_) (fun z => hpP (hsi p P s _ hp hS (Or.inr z))) g.2.1, g.2.2⟩
      · rw [z] at g; have h9 := g.1.symm.trans k2; cases h9
      · rw [z] at g; have h9 := g.2.1.symm.trans k1; cases h9
  · have ex : ∀ {p : Nat} {s : s_T}, va_up S P (some (j, r, n', ob', f', w')) p = some s → ∃ t, S p = some t ∧ t.1 = s.1 ∧ t.2.1 = s.2.1 := by
      intro p s hp
      by_cases hpP : p = P
      · subst hpP
        rw [va_up_self] at hp
        cases hp
        exact ⟨_, hS, rfl, rfl⟩
      · rw [va_up_ne _ _ hpP] at hp
        exact ⟨s, hp, rfl, rfl⟩
    obtain ⟨t, e1, e2, e3⟩ := ex hp
    obtain ⟨t', e1', e2', e3'⟩ := ex hp'
    exact hsi p p' t t' e1 e1' (by rw [e2, e3, e2', e3']; exact he)
