section ZCP
variable {p : Program} {l : Launch} {e : Env} {R : Room} {s : State} {m : MethodId} {args : Array Value} {below : List Frame} {meth : Method} {c : Code} {Q : State → Prop} {cc : ByteArray} {own : String} {G : z_G} {base nL cells slots pc : Nat} {lv : List (Nat × Value)} {st : List Value} {hp : List va_E}
/-- System.arraycopy within one array of longs -/
theorem z_copyl (C : z_C p s m args meth c cc nL own G base) {idx i n sp dp k : Nat} {f : Nat → Int64} (hw : Cond.methodLink own idx arraycopyName ∈ z_W) (hw1 : Cond.native arraycopyName ∈ z_W) (hw2 : Cond.static arraycopyName ∈ z_W) (hw3 : Cond.initialized "java/lang/System" ∈ z_W) (hd : decode cc pc = .ok (.invokestatic idx, 3)) (he : hp[i]? = some (.inl (G.2 1, n, .inr (.inl f)))) (h4 : sp + k ≤ n) (h5 : dp + k ≤ n) (hn : n < 65536) (hR1 : 1 ≤ R.frames) (hR2 : (st.map fun v => v.category).sum + (nativeFrameWords "java/lang/System" "arraycopy" 5 + 11) ≤ R.locals)
    (kk : z_R p l e R s m args below meth c Q G base nL cells slots (pc + 3) lv st (hp.set i (.inl (G.2 1, n, .inr (.inl (va_cpy f f sp dp k)))))) : z_R p l e R s m args below meth c Q G base nL cells slots pc lv (.int (nI k) :: .int (nI dp) :: .ref (base + i) :: .int (nI sp) :: .ref (base + i) :: st) hp := by
  intro H locs ls h1 h2 h3 T hT X
  have hts := C.2.2.2.2.1
  have hc0 : H[base + i]? = some (vp_cell (G.2 1) (n, .inr (.inl f))) := h1.2 i _ he
  obtain ⟨-, k0, hk0, cm0, hkk0⟩ := (C.2.2.2.2.2.1.1.2 1 _ rfl).1 n (fun j => .long (f j))
  have qk : (nI k).toNatClampNeg = k := nI_clamp (by omega)
  have qs : (nI sp).toNatClampNeg = sp := nI_clamp (by omega)
  have qd : (nI dp).toNatClampNeg = dp := nI_clamp (by omega)
  have hsz : ((vp_cell (G.2 1) (n, .inr (.inl f))).slots.size : Int) = n := by
    show ((arrV (G.2 1) n (fun j => .long (f j))).slots.size : Int) = n
    rw [arrV_size]
  obtain ⟨vm', X', step⟩ := X.arraycopy C.1 C.2.2.2.1 (hts _ hw) (hts _ hw1) (hts _ hw2) (hts _ hw3) (cs := vp_cell (G.2 1) (n, .inr (.inl f))) (cd := vp_cell (G.2 1) (n, .inr (.inl f))) (src := base + i) (dst := base + i) (srcPos := nI sp) (destPos := nI dp) (n := nI k) (by rw [hT]; exact hc0) (by rw [hT]; exact hc0)
    (fun _ h => by cases h) (fun _ h => by cases h) (fun h => by cases h) (fun h => by cases h) hk0 hk0 hkk0 hkk0 (by simp [refKind]) (nI_pos (by omega)) (nI_pos (by omega)) (nI_pos (by omega))
    (by rw [nI_toInt (by omega), nI_toInt (by omega), hsz]; omega) (by rw [nI_toInt (by omega), nI_toInt (by omega), hsz]; omega)
    (fun vm₁ _ j hj => by
      rw [qk] at hj
      have e : (vp_cell (G.2 1) (n, .inr (.inl f))).slots.getD ((nI sp).toNatClampNeg + j) .null = .long (f (sp + j)) := by
        rw [qs]
        show (arrV (G.2 1) n (fun j => .long (f j))).slots.getD _ _ = _
        rw [Array.getD_eq_getD_getElem?, arrV_read _ _ (by omega)]
        rfl
      rw [e]
      exact ⟨rfl, trivial⟩)
    (g := F0 m pc ls (.int (nI k) :: .int (nI dp) :: .ref (base + i) :: .int (nI sp) :: .ref (base + i) :: st)) rfl (by rw [C.2.2.1]; exact h3.1) (rest := st) rfl (by rw [C.2.1]; exact hd) hR1 (by show 2 * 0 + _ + _ ≤ _; omega)
  have e1 : copied (vp_cell (G.2 1) (n, .inr (.inl f))) (vp_cell (G.2 1) (n, .inr (.inl f))) (nI sp) (nI dp) (nI k) = vp_cell (G.2 1) (n, .inr (.inl (va_cpy f f sp dp k))) := by
    have h9 := va_copied (fun z => Value.long z) (G.2 1) (G.2 1) (n0 := n) (n1 := n) (sp := (nI sp).toNatClampNeg) (dp := (nI dp).toNatClampNeg) (n := (nI k).toNatClampNeg) f f (by rw [qs, qk]; exact h4)
    refine (show copied _ _ _ _ _ = _ from h9).trans ?_
    rw [qs, qd, qk]
    rfl
  rw [e1] at X' step
  have hl : base + i < H.size := (Array.getElem?_eq_some_iff.mp hc0).1
  have oq : ∀ q : Nat, q ≠ base + i → (H.setIfInBounds (base + i) (vp_cell (G.2 1) (n, .inr (.inl (va_cpy f f sp dp k)))))[q]? = H[q]? := fun q hq => by simp [Array.getElem?_setIfInBounds, Ne.symm hq]
  obtain ⟨t, a1, b1⟩ := kk (H.setIfInBounds (base + i) (vp_cell (G.2 1) (n, .inr (.inl (va_cpy f f sp dp k))))) _ ls (h1.set (by simp) oq (show (H.setIfInBounds (base + i) _)[base + i]? = some _ by simp [Array.getElem?_setIfInBounds, hl])) ⟨by simp; exact h2.1, fun q g1 g2 => by
      rw [oq q (fun z => g2 (by rw [z]; exact Nat.le_add_right _ _))]
      exact h2.2.1 q g1 g2, fun q hq => by
      rcases List.mem_append.mp hq with h | h
      · exact h2.2.2 q h
      · obtain ⟨z, -, hz⟩ := List.mem_map.mp h
        rw [← hz]
        exact Nat.le_add_right _ _⟩ h3 _ (by rw [← hT]; rfl) X'
  exact ⟨t, step t a1, b1⟩
end ZCP
/-! the memory: words of eight bytes -/
def q_Mb (f : Nat → Int64) (mem : Nat → Nat) : Prop := ∀ a, a < 16384 → mem a < 256 ∧ ∀ i, i < 8 → lb (f (a / 8)) (a % 8 * 8 + i) = (mem a).testBit i
theorem b32_255 : ∀ i, i < 32 → (255 : Int32).toBitVec.getLsbD i = decide (i < 8) := by decide +kernel
theorem mb_get {w : Int64} {k v : Nat} (hk : k + 8 ≤ 64) (hv : v < 256) (h : ∀ i, i < 8 → lb w (k + i) = v.testBit i) : ((w.toUInt64 >>> ((nI k).toInt64.toUInt64 &&& Int64.toUInt64 63)).toInt64).toInt32 &&& 255 = nI v := by
  apply Int32.toBitVec_inj.mp
  apply BitVec.eq_of_getLsbD_eq
  intro i hi
  rw [Int32.toBitVec_and, BitVec.getLsbD_and, b32_255 i hi]
  have h2 : (((w.toUInt64 >>> ((nI k).toInt64.toUInt64 &&& Int64.toUInt64 63)).toInt64).toInt32).toBitVec.getLsbD i = lb (w.toUInt64 >>> ((nI k).toInt64.toUInt64 &&& Int64.toUInt64 63)).toInt64 i := by
    rw [Int64.toBitVec_toInt32, BitVec.getLsbD_signExtend]
    simp [hi, lb, show i < 64 by omega]
  rw [h2, lb_shr (by omega)]
  have h3 : (nI v).toBitVec.getLsbD i = v.testBit i := by
    show (BitVec.ofNat 32 v).getLsbD i = _
    rw [BitVec.getLsbD_ofNat]
    simp [hi]
  rw [h3]
  by_cases h8 : i < 8
  · rw [h i h8]
    simp [h8]
  · rw [Nat.testBit_lt_two_pow (Nat.lt_of_lt_of_le hv (by rw [show 256 = 2 ^ 8 by rfl]; exact Nat.pow_le_pow_right (by omega) (by omega)))]
    simp [h8]
def mb_new (w : Int64) (k : Nat) (v : Int32) : Int64 := (w &&& (((255 : Int64) <<< ((nI k).toInt64 &&& 63)) ^^^ (-1))) ||| ((v.toInt64 &&& 255) <<< ((nI k).toInt64 &&& 63))
theorem mb_put {w : Int64} {k : Nat} {v : Int32} {i : Nat} (hk : k + 8 ≤ 64) (hi : i < 64) : lb (mb_new w k v) i = if k ≤ i ∧ i < k + 8 then (v.toBitVec.toNat % 256).testBit (i - k) else lb w i := by
  unfold mb_new
  rw [lb_or, lb_and, lb_xor, lb_shl (by omega) hi, lb_shl (by omega) hi, lb_m1 i hi, lb_and]
  have hv : ∀ j, j < 8 → lb v.toInt64 j = (v.toBitVec.toNat % 256).testBit j := by
    intro j hj
    unfold lb
    rw [Int32.toBitVec_toInt64, BitVec.getLsbD_signExtend]
    rw [show (256 : Nat) = 2 ^ 8 by rfl, Nat.testBit_mod_two_pow]
    simp [show j < 64 by omega, show j < 32 by omega, hj, BitVec.getLsbD]
  by_cases h : k ≤ i
  · rw [lb_255 _ (by omega)]
    by_cases h2 : i < k + 8
    · rw [if_pos ⟨h, h2⟩, hv _ (by omega)]
      simp [h, show i - k < 8 by omega]
    · rw [if_neg (fun z => h2 z.2)]
      simp [h, show ¬ i - k < 8 by omega]
  · rw [if_neg (fun z => h z.1)]
    simp [h]
theorem q_Mb_put {f : Nat → Int64} {mem : Nat → Nat} {a : Nat} {v : Int32} (ha : a < 16384) (h : q_Mb f mem) : q_Mb (vp_updL f (a / 8) (mb_new (f (a / 8)) (a % 8 * 8) v)) (va_up mem a (v.toBitVec.toNat % 256)) := by
  intro b hb
  unfold vp_updL va_up
  by_cases hba : b = a
  · subst hba
    simp only [if_true]
    refine ⟨Nat.mod_lt _ (by decide), fun i hi => ?_⟩
    rw [mb_put (by omega) (by omega), if_pos ⟨by omega, by omega⟩, Nat.add_sub_cancel_left]
  · simp only [hba, if_false]
    refine ⟨(h b hb).1, fun i hi => ?_⟩
    by_cases hw : b / 8 = a / 8
    · rw [if_pos hw, mb_put (by omega) (by omega), if_neg (fun z => hba (by omega)), ← hw]
      exact (h b hb).2 i hi
    · rw [if_neg hw]
      exact (h b hb).2 i hi
theorem q_Mb_cpy {f : Nat → Int64} {mem : Nat → Nat} {a b k : Nat} (ha : (a + k) * 8 ≤ 16384) (hb : (b + k) * 8 ≤ 16384) (h : q_Mb f mem) : q_Mb (va_cpy f f a b k) (fun z => if b * 8 ≤ z ∧ z < (b + k) * 8 then mem (a * 8 + (z - b * 8)) else mem z) := by
  intro z hz
  dsimp only
  unfold va_cpy
  by_cases hc : b ≤ z / 8 ∧ z / 8 < b + k
  · rw [if_pos (show b * 8 ≤ z ∧ z < (b + k) * 8 by omega)]
    have h2 := h (a * 8 + (z - b * 8)) (by omega)
    refine ⟨h2.1, fun i hi => ?_⟩
    rw [if_pos hc]
    have h3 := h2.2 i hi
    rw [show (a * 8 + (z - b * 8)) / 8 = a + (z / 8 - b) by omega, show (a * 8 + (z - b * 8)) % 8 = z % 8 by omega] at h3
    exact h3
  · rw [if_neg (show ¬ (b * 8 ≤ z ∧ z < (b + k) * 8) by omega)]
    refine ⟨(h z hz).1, fun i hi => ?_⟩
    rw [if_neg hc]
    exact (h z hz).2 i hi
def q_oS (r n ob : Nat) (w : Int64) (base : Nat) : va_E := .inr (3, [.ref (base + r), .int (nI n), .int (nI ob), .long w])
def q_aI (G : z_G) (n : Nat) (f : Nat → Nat) : va_E := .inl (G.2 0, n, .inl (fun p => nI (f p)))
def q_aL (G : z_G) (n : Nat) (f : Nat → Int64) : va_E := .inl (G.2 1, n, .inr (.inl f))
def q_oM (base : Nat) : va_E := .inr (2, [.ref (base + 2)])
/-- the row of a new slab: from the last on -/
def q_row (ob : Nat) : Nat → Nat → (Nat → Nat) → (Nat → Nat)
  | 0, _, f => f
  | n + 1, i, f => q_row ob n (i + 1) (va_up f i (ob - 1 - i))
def q_cpm (mem : Nat → Nat) (a b n : Nat) : Nat → Nat := fun z => if b ≤ z ∧ z < b + n then mem (a + (z - b)) else mem z
theorem q_cpm_step {mem : Nat → Nat} {a b i : Nat} : va_up (q_cpm mem a b i) (b + i) (mem (a + i)) = q_cpm mem a b (i + 1) := by
  funext z
  unfold va_up q_cpm
  by_cases h : z = b + i
  · subst h
    rw [if_pos rfl, if_pos ⟨by omega, by omega⟩, Nat.add_sub_cancel_left]
  · rw [if_neg h]
    by_cases h2 : b ≤ z ∧ z < b + i
    · rw [if_pos h2, if_pos ⟨h2.1, by omega⟩]
    · rw [if_neg h2, if_neg (fun q => h2 ⟨q.1, by omega⟩)]
theorem q_cpm_src {mem : Nat → Nat} {a b i : Nat} (h : a + i < b ∨ b + i ≤ a + i) (h2 : a + i < b ∨ b + i ≤ a) : q_cpm mem a b i (a + i) = mem (a + i) := by
  unfold q_cpm
  rw [if_neg]
  omega
theorem nI_byte {v : Nat} (h : v < 256) : (nI v).toBitVec.toNat % 256 = v := by
  rw [pk_tn (by omega)]
  omega
theorem q_Mb_cpw {f : Nat → Int64} {mem : Nat → Nat} {a b n : Nat} (ha8 : a % 8 = 0) (hb8 : b % 8 = 0) (ha : a + n ≤ 16384) (hb : b + n ≤ 16384) (h : q_Mb f mem) : q_Mb (va_cpy f f (a / 8) (b / 8) (n / 8)) (q_cpm mem a b (n / 8 * 8)) := by
  have h1 := q_Mb_cpy (f := f) (mem := mem) (a := a / 8) (b := b / 8) (k := n / 8) (by omega) (by omega) h
  have e : (fun z => if b / 8 * 8 ≤ z ∧ z < (b / 8 + n / 8) * 8 then mem (a / 8 * 8 + (z - b / 8 * 8)) else mem z) = q_cpm mem a b (n / 8 * 8) := by
    funext z
    unfold q_cpm
    rw [show b / 8 * 8 = b by omega, show a / 8 * 8 = a by omega, show (b / 8 + n / 8) * 8 = b + n / 8 * 8 by omega]
  rw [e] at h1
  exact h1
