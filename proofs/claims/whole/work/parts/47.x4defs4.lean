/-! the public calls' words -/
def c_usB (sc : Nat → Int32) (x y : Int32) : Bool := decide (sc 0 = 0 ∧ 0 ≤ x ∧ y < 256 ∧ x ≤ y)
def c_rdA (mem : Nat → Nat) (x : Int32) : Int32 := if 0 ≤ x ∧ x < 16384 then nI (mem x.toNatClampNeg) else -1
def k_cf (n b a : Nat) : Nat → Int32 := fun j => match j with
  | 0 => nI (2 + n)
  | 1 => nI b
  | 2 => nI a
  | 3 => nI (k_str b a)
  | 4 => nI (q_so (k_str b a) 4 0)
  | 5 => nI (64 * 2 ^ q_so (k_str b a) 4 0 / k_str b a)
  | 6 => 0
  | 7 => 0
  | _ => -1
def bc_s (x y : Int32) : Int32 := (x.toUInt32 >>> (y.toUInt32 &&& Int32.toUInt32 31)).toInt32
def bc_1 (x : Int32) : Int32 := x - (bc_s x 1 &&& 1431655765)
def bc_2 (x : Int32) : Int32 := (x &&& 858993459) + (bc_s x 2 &&& 858993459)
def bc_3 (x : Int32) : Int32 := (x + bc_s x 4) &&& 252645135
def bc_4 (x : Int32) : Int32 := x + bc_s x 8
def bc_5 (x : Int32) : Int32 := x + bc_s x 16
def bc_F (x : Int32) : Int32 := bc_5 (bc_4 (bc_3 (bc_2 (bc_1 x)))) &&& 63
def c_chB (sc : Nat → Int32) (nc : Nat) (x y : Int32) : Bool := decide (¬ sc 0 = 0 ∧ nI nc < 12 ∧ (1 ≤ x ∧ x ≤ 1024) ∧ 1 ≤ y ∧ y ≤ 64 ∧ bc_F y = 1)
theorem bc_pow : ∀ a, a < 65 → (bc_F (nI a) = 1 ↔ ∃ m, m < 7 ∧ a = 2 ^ m) := by decide +kernel
theorem k_al : ∀ m, m < 7 → ∀ b, b < 1025 → (nI b + nI (2 ^ m) - 1) &&& (-(nI (2 ^ m))) = nI (k_str b (2 ^ m)) := by decide +kernel
theorem C_ok.setm {G : z_G} {base : Nat} {sc td : Nat → Int32} {q : q_T} {nc : Nat} {cf : Nat → Nat → Int32} {pl : Nat → Nat} {S : Nat → Option s_T} {mem mem' : Nat → Nat} {hp : List va_E} {f : Nat → Int64} (h : C_ok G base sc td q nc cf pl S mem hp) (hm : q_Mb f mem') : C_ok G base sc td q nc cf pl S mem' (hp.set 2 (q_aL G 2048 f)) := by
  obtain ⟨h0, h1, ⟨f0, h2, -⟩, ⟨h3, h4, h5, h6, h7⟩, h8, h9, ⟨hc, hci⟩, ⟨hs, hsi⟩, hl⟩ := h
  refine ⟨z_oth (by omega) h0, z_oth (by omega) h1, ⟨f, z_self h2, hm⟩, ⟨z_oth (by omega) h3, z_oth (by omega) h4, z_oth (by omega) h5, z_oth (by omega) h6, z_oth (by omega) h7⟩, z_oth (by omega) h8, z_oth (by omega) h9, ⟨fun c hcn => ?_, hci⟩, ⟨fun p s hp => ?_, hsi⟩, by rw [List.length_set]; exact hl⟩
  · have := hc c hcn
    exact ⟨z_oth (by omega) this.1, this.2⟩
  · have := hs p s hp
    exact ⟨z_oth (by omega) this.1, z_oth (by omega) this.2.1, this.2.2⟩
theorem C_ok.setsc {G : z_G} {base : Nat} {sc sc' td : Nat → Int32} {q : q_T} {nc : Nat} {cf : Nat → Nat → Int32} {pl : Nat → Nat} {S : Nat → Option s_T} {mem : Nat → Nat} {hp : List va_E} (h : C_ok G base sc td q nc cf pl S mem hp) : C_ok G base sc' td q nc cf pl S mem (hp.set 3 (q_oB base sc')) := by
  obtain ⟨h0, h1, ⟨f0, h2, hm⟩, ⟨h3, h4, h5, h6, h7⟩, h8, h9, ⟨hc, hci⟩, ⟨hs, hsi⟩, hl⟩ := h
  refine ⟨z_oth (by omega) h0, z_oth (by omega) h1, ⟨f0, z_oth (by omega) h2, hm⟩, ⟨z_self h3, z_oth (by omega) h4, z_oth (by omega) h5, z_oth (by omega) h6, z_oth (by omega) h7⟩, z_oth (by omega) h8, z_oth (by omega) h9, ⟨fun c hcn => ?_, hci⟩, ⟨fun p s hp => ?_, hsi⟩, by rw [List.length_set]; exact hl⟩
  · have := hc c hcn
    exact ⟨z_oth (by omega) this.1, this.2⟩
  · have := hs p s hp
    exact ⟨z_oth (by omega) this.1, z_oth (by omega) this.2.1, this.2.2⟩
/-- a new cache -/
theorem C_ok.newc {G : z_G} {base : Nat} {sc td : Nat → Int32} {q : q_T} {nc : Nat} {cf : Nat → Nat → Int32} {pl : Nat → Nat} {S : Nat → Option s_T} {mem : Nat → Nat} {hp : List va_E} (h : C_ok G base sc td q nc cf pl S mem hp) {g : Nat → Int32} :
    C_ok G base sc td q (nc + 1) (va_up cf nc g) (va_up pl nc hp.length) S mem (((hp ++ [q_oC g]).set 9 (q_aR G 4 12 (va_up (c_ca base nc pl) nc (some (base + hp.length))))).set 0 (q_oP base (nc + 1))) := by
  obtain ⟨h0, h1, ⟨f0, h2, hm⟩, ⟨h3, h4, h5, h6, h7⟩, h8, h9, ⟨hc, hci⟩, ⟨hs, hsi⟩, hl⟩ := h
  have ap : ∀ {i : Nat} {e : va_E}, hp[i]? = some e → (hp ++ [q_oC g])[i]? = some e := fun he => by
    rw [List.getElem?_append_left (List.getElem?_eq_some_iff.mp he).1]; exact he
  have lt : ∀ {i : Nat} {e : va_E}, hp[i]? = some e → i < hp.length := fun he => (List.getElem?_eq_some_iff.mp he).1
  have oth : ∀ {i : Nat} {e x y : va_E}, i ≠ 9 → i ≠ 0 → hp[i]? = some e → (((hp ++ [q_oC g]).set 9 x).set 0 y)[i]? = some e := fun a b c => z_oth (Ne.symm b) (z_oth (Ne.symm a) (ap c))
  refine ⟨z_self (z_oth (by omega) (ap h0)), oth (by omega) (by omega) h1, ⟨f0, oth (by omega) (by omega) h2, hm⟩, ⟨oth (by omega) (by omega) h3, oth (by omega) (by omega) h4, oth (by omega) (by omega) h5, oth (by omega) (by omega) h6, oth (by omega) (by omega) h7⟩, oth (by omega) (by omega) h8, ?_, ⟨fun c hcn => ?_, fun c c' hcn hcn' he => ?_⟩, ⟨fun p s hp => ?_, hsi⟩, by rw [List.length_set, List.length_set, List.length_append]; omega⟩
  · rw [z_oth (by omega) (z_self (ap h9))]
    congr 2
    funext c
    unfold c_ca va_up
    by_cases hp : c = nc
    · rw [if_pos hp, if_pos (by omega), if_pos hp]
    · rw [if_neg hp]
      dsimp only
      by_cases hp2 : c < nc
      · rw [if_pos hp2, if_pos (by omega), if_neg hp]
      · rw [if_neg hp2, if_neg (by omega)]
  · by_cases he : c = nc
    · subst he
      rw [va_up_self, va_up_self]
      refine ⟨z_oth (by omega) (z_oth (by omega) ?_), by omega, by omega⟩
      rw [List.getElem?_append_right (Nat.le_refl _), Nat.sub_self]; rfl
    · rw [va_up_ne _ _ he, va_up_ne _ _ he]
      have := hc c (by omega)
      exact ⟨oth (by omega) (by omega) this.1, this.2⟩
  · by_cases h1 : c = nc
    · by_cases h2 : c' = nc
      · rw [h1, h2]
      · rw [h1, va_up_self, va_up_ne _ _ h2] at he
        have := lt (hc c' (by omega)).1
        omega
    · by_cases h2 : c' = nc
      · rw [h2, va_up_self, va_up_ne _ _ h1] at he
        have := lt (hc c (by omega)).1
        omega
      · rw [va_up_ne _ _ h1, va_up_ne _ _ h2] at he
        exact hci c c' (by omega) (by omega) he
  · have := hs p s hp
    exact ⟨oth (by omega) (by omega) this.1, oth (by omega) (by omega) this.2.1, this.2.2⟩
theorem j_wp_0 {od us : Nat → Nat} {x : Int32} (h : j_wp od us x = 0) : ∃ P, P < 256 ∧ x = nI P ∧ 1 ≤ od P ∧ j_uf od us (nI P) = 1 := by
  unfold j_wp at h
  split at h
  · exact absurd h (by decide)
  · split at h
    · rename_i h1 h2
      have h3 := h2
      unfold j_uf at h3
      split at h3
      · rename_i h4
        obtain ⟨P, hP, rfl⟩ := pg_of h4.1
        rw [cl_nI hP] at h4
        exact ⟨P, hP, rfl, by omega, h2⟩
      · exact absurd h3 (by decide)
    · exact absurd h (by decide)
theorem e_up {hp : List va_E} {i : Nat} {cf : Nat → Nat → Int32} {c : Nat} {g : Nat → Int32} (h : hp[i]? = some (q_oC (va_up cf c g c))) : hp[i]? = some (q_oC g) := by
  rw [va_up_self] at h; exact h
theorem k_kf_ge (b : Nat) : ∀ n j, k_kf b n j ≤ n + j := by
  intro n
  induction n with
  | zero => intro j; exact Nat.le_of_eq (Nat.zero_add j).symm
  | succ n ih =>
    intro j
    unfold k_kf
    split
    · have := ih (j + 1); omega
    · omega
theorem k_kf_le {b : Nat} : k_kf b 12 0 ≤ 12 := k_kf_ge b 12 0
theorem c_ka_le {nc a P : Nat} {q : q_T} {cf : Nat → Nat → Int32} {S : Nat → Option s_T} {kt ko kb : Nat → Nat} (h : X_ok nc q cf S kt ko kb) (hG : H_gbs q S kt kb a P) : c_ka q P ≤ 12 := by
  have h7 := h.q P
  unfold c_ka
  split
  · rcases hG.2.2.2.2 with ⟨c, i, h1, h2, -⟩ | ⟨h1, -⟩ <;> omega
  · omega
theorem X_ok.e8 {nc : Nat} {q : q_T} {cf : Nat → Nat → Int32} {S : Nat → Option s_T} {kt ko kb : Nat → Nat} (h : X_ok nc q cf S kt ko kb) {c : Nat} (hc : c < nc) : X_ok nc q (va_up cf c (upd (cf c) 8 (-1))) S kt ko kb := by
  obtain ⟨h1, h2, h3, h4, h5, h6, h7, h8⟩ := h
  refine ⟨h1, h2, h3, fun c' hc' => ?_, h5, h6, h7, fun c' hc' => ?_⟩
  · by_cases he : c' = c
    · subst he
      rw [va_up_self]
      exact h4 c' hc'
    · rw [va_up_ne _ _ he]
      exact h4 c' hc'
  · by_cases he : c' = c
    · subst he
      exact Or.inl (by rw [va_up_self]; rfl)
    · rw [va_up_ne _ _ he]
      exact h8 c' hc'
