/-! ===== contracts: the reference's getters; how many are in a team ===== -/
def mN (I : II) (F S : Nat) : Prop := I 50 0 = nI F ∧ F ≤ 8 ∧ I 50 1 = nI S ∧ S ≤ 6
theorem or_z (x : Int32) : x ||| 0 = x := by
  apply Int32.toBitVec_inj.mp
  simp
/-- how many bits of the lowest eight -/
def ones (x : Int32) : Int32 := rep (fun k n => n + ((x >>> (nI k &&& 31)) &&& 1)) 8 0 0
section MGET
variable {E : MEnv} {I : II} {T : TT} {Q : QQ} {F S : Nat}
theorem l_teamOf_508 (h : mN I F S) : ∀ (d f : Nat) (b : Int32), f + d = F → Q (.inl (some (.int (rep (fun f b => if I 508 f = -1 then b else b ||| ((1 : Int32) <<< (nI f &&& 31))) d f b)))) I T → t_M_teamOf_508_4 E I T Q b (nI f)
  | 0, f, b, hf, hq => by
    unfold t_M_teamOf_508_4
    rw [h.1]
    have := h.2.1
    exact ⟨fun _ => hq, fun q => absurd (nI_le (by omega) (by omega)) q⟩
  | d + 1, f, b, hf, hq => by
    have h8 := h.2.1
    unfold t_M_teamOf_508_4 t_M_teamOf_508_23
    rw [h.1]
    refine ⟨fun q => absurd q (nI_ge (by omega) (by omega)), fun _ => ?_⟩
    rw [z0]
    refine ⟨gix (by omega) (by omega), ?_⟩
    rw [nI_clamp (by omega), nI_1]
    rw [rep] at hq
    refine ⟨fun q => ?_, fun q => ?_⟩
    · rw [if_pos q] at hq
      rw [or_z]
      exact s_M_teamOf_508_4 (l_teamOf_508 h d (f + 1) _ (by omega) hq)
    · rw [if_neg q] at hq
      exact s_M_teamOf_508_4 (l_teamOf_508 h d (f + 1) _ (by omega) hq)
theorem p_teamOf_508 (h : mN I F S) (hq : Q (.inl (some (.int (bits (I 508) F)))) I T) : ev E 152 0 [some (.ref 46), some (.ref 508), none, none] [] I T Q :=
  s_M_teamOf_508_0 (l_teamOf_508 h F 0 0 (by omega) hq)
theorem l_holder_508 (h : mN I F S) (p : Int32) : ∀ (d f : Nat), f + d = F → Q (.inl (some (.int (whoAt (I 508) p d f)))) I T → t_M_holder_508_2 E I T Q p (nI f)
  | 0, f, hf, hq => by
    unfold t_M_holder_508_2
    rw [h.1]
    have := h.2.1
    exact ⟨fun _ => hq, fun q => absurd (nI_le (by omega) (by omega)) q⟩
  | d + 1, f, hf, hq => by
    have h8 := h.2.1
    unfold t_M_holder_508_2
    rw [h.1]
    refine ⟨fun q => absurd q (nI_ge (by omega) (by omega)), fun _ => ?_⟩
    rw [z0]
    refine ⟨gix (by omega) (by omega), ?_⟩
    rw [nI_clamp (by omega), nI_1]
    rw [whoAt] at hq
    refine ⟨fun q => ?_, fun q => ?_⟩
    · rw [if_pos q] at hq
      exact hq
    · rw [if_neg q] at hq
      exact s_M_holder_508_2 (l_holder_508 h p d (f + 1) (by omega) hq)
theorem p_holder_508 (h : mN I F S) (p : Int32) (hq : Q (.inl (some (.int (whoAt (I 508) p F 0)))) I T) : ev E 151 0 [some (.ref 46), some (.ref 508), some (.int p), none] [] I T Q :=
  s_M_holder_508_0 (l_holder_508 h p F 0 (by omega) hq)
theorem l_teamOf_509 (h : mN I F S) : ∀ (d f : Nat) (b : Int32), f + d = F → Q (.inl (some (.int (rep (fun f b => if I 509 f = -1 then b else b ||| ((1 : Int32) <<< (nI f &&& 31))) d f b)))) I T → t_M_teamOf_509_4 E I T Q b (nI f)
  | 0, f, b, hf, hq => by
    unfold t_M_teamOf_509_4
    rw [h.1]
    have := h.2.1
    exact ⟨fun _ => hq, fun q => absurd (nI_le (by omega) (by omega)) q⟩
  | d + 1, f, b, hf, hq => by
    have h8 := h.2.1
    unfold t_M_teamOf_509_4 t_M_teamOf_509_23
    rw [h.1]
    refine ⟨fun q => absurd q (nI_ge (by omega) (by omega)), fun _ => ?_⟩
    rw [z0]
    refine ⟨gix (by omega) (by omega), ?_⟩
    rw [nI_clamp (by omega), nI_1]
    rw [rep] at hq
    refine ⟨fun q => ?_, fun q => ?_⟩
    · rw [if_pos q] at hq
      rw [or_z]
      exact s_M_teamOf_509_4 (l_teamOf_509 h d (f + 1) _ (by omega) hq)
    · rw [if_neg q] at hq
      exact s_M_teamOf_509_4 (l_teamOf_509 h d (f + 1) _ (by omega) hq)
theorem p_teamOf_509 (h : mN I F S) (hq : Q (.inl (some (.int (bits (I 509) F)))) I T) : ev E 152 0 [some (.ref 46), some (.ref 509), none, none] [] I T Q :=
  s_M_teamOf_509_0 (l_teamOf_509 h F 0 0 (by omega) hq)
theorem l_holder_509 (h : mN I F S) (p : Int32) : ∀ (d f : Nat), f + d = F → Q (.inl (some (.int (whoAt (I 509) p d f)))) I T → t_M_holder_509_2 E I T Q p (nI f)
  | 0, f, hf, hq => by
    unfold t_M_holder_509_2
    rw [h.1]
    have := h.2.1
    exact ⟨fun _ => hq, fun q => absurd (nI_le (by omega) (by omega)) q⟩
  | d + 1, f, hf, hq => by
    have h8 := h.2.1
    unfold t_M_holder_509_2
    rw [h.1]
    refine ⟨fun q => absurd q (nI_ge (by omega) (by omega)), fun _ => ?_⟩
    rw [z0]
    refine ⟨gix (by omega) (by omega), ?_⟩
    rw [nI_clamp (by omega), nI_1]
    rw [whoAt] at hq
    refine ⟨fun q => ?_, fun q => ?_⟩
    · rw [if_pos q] at hq
      exact hq
    · rw [if_neg q] at hq
      exact s_M_holder_509_2 (l_holder_509 h p d (f + 1) (by omega) hq)
theorem p_holder_509 (h : mN I F S) (p : Int32) (hq : Q (.inl (some (.int (whoAt (I 509) p F 0)))) I T) : ev E 151 0 [some (.ref 46), some (.ref 509), some (.int p), none] [] I T Q :=
  s_M_holder_509_0 (l_holder_509 h p F 0 (by omega) hq)
theorem l_ones (x : Int32) : ∀ (d k : Nat) (n : Int32), k + d = 8 → Q (.inl (some (.int (rep (fun k n => n + ((x >>> (nI k &&& 31)) &&& 1)) d k n)))) I T → t_M_ones_4 E I T Q x n (nI k)
  | 0, k, n, hk, hq => by
    unfold t_M_ones_4
    exact ⟨fun _ => hq, fun q => absurd (nI_le (a := 8) (b := k) (by omega) (by omega)) q⟩
  | d + 1, k, n, hk, hq => by
    unfold t_M_ones_4
    refine ⟨fun q => absurd q (nI_ge (a := k) (b := 8) (by omega) (by omega)), fun _ => ?_⟩
    rw [rep] at hq
    rw [nI_1]
    exact s_M_ones_4 (l_ones x d (k + 1) _ (by omega) hq)
theorem p_ones (x : Int32) (hq : Q (.inl (some (.int (ones x)))) I T) : ev E 157 0 [some (.int x), none, none] [] I T Q := s_M_ones_0 (l_ones x 8 0 0 rfl hq)
/-! Integer.bitCount -/
def bc1 (x : Int32) : Int32 := x - ((i_ushr x 1) &&& 1431655765)
def bc2 (x : Int32) : Int32 := (x &&& 858993459) + ((i_ushr x 2) &&& 858993459)
def bc3 (x : Int32) : Int32 := (x + (i_ushr x 4)) &&& 252645135
def bc4 (x : Int32) : Int32 := x + (i_ushr x 8)
def bc5 (x : Int32) : Int32 := (x + (i_ushr x 16)) &&& 63
def bc (x : Int32) : Int32 := bc5 (bc4 (bc3 (bc2 (bc1 x))))
theorem p_bitCount (x : Int32) (hq : Q (.inl (some (.int (bc x)))) I T) : ev E 123 0 [some (.int x)] [] I T Q := s_Integer_bitCount_0 hq
theorem bc_ones : ∀ m : Fin 256, bc (nI m.val) = ones (nI m.val) := by decide +kernel
theorem shl_one : ∀ f : Fin 8, (1 : Int32) <<< (nI f.val &&& 31) = nI (2 ^ f.val) := by decide +kernel
theorem bits_lt (r : Nat → Int32) : ∀ (d f m : Nat), f + d ≤ 8 → m < 2 ^ f → ∃ k, k < 2 ^ (f + d) ∧ rep (fun f b => if r f = -1 then b else b ||| ((1 : Int32) <<< (nI f &&& 31))) d f (nI m) = nI k
  | 0, f, m, _, hm => ⟨m, hm, rfl⟩
  | d + 1, f, m, hf, hm => by
    rw [rep]
    have h2 : m < 2 ^ (f + 1) := Nat.lt_of_lt_of_le hm (Nat.pow_le_pow_right (by omega) (by omega))
    by_cases h : r f = -1
    · rw [if_pos h]
      obtain ⟨k, h1, h3⟩ := bits_lt r d (f + 1) m (by omega) h2
      exact ⟨k, by rw [show f + (d + 1) = f + 1 + d by omega]; exact h1, h3⟩
    · rw [if_neg h, shl_one ⟨f, by omega⟩, fa_or]
      obtain ⟨k, h1, h3⟩ := bits_lt r d (f + 1) (m ||| 2 ^ f) (by omega) (Nat.or_lt_two_pow h2 (Nat.pow_lt_pow_right (by omega) (by omega)))
      exact ⟨k, by rw [show f + (d + 1) = f + 1 + d by omega]; exact h1, h3⟩
theorem bits_nI (r : Nat → Int32) {F : Nat} (h : F ≤ 8) : ∃ k, k < 2 ^ F ∧ bits r F = nI k := by
  obtain ⟨k, h1, h2⟩ := bits_lt r F 0 0 (by omega) (by decide)
  exact ⟨k, by rw [Nat.zero_add] at h1; exact h1, h2⟩
theorem bc_bits (r : Nat → Int32) {F : Nat} (h : F ≤ 8) : bc (bits r F) = ones (bits r F) := by
  obtain ⟨k, h1, h2⟩ := bits_nI r h
  have h3 : k < 256 := Nat.lt_of_lt_of_le h1 (Nat.pow_le_pow_right (n := 2) (by omega) h)
  rw [h2]
  exact bc_ones ⟨k, h3⟩
theorem bits_congr {r q : Nat → Int32} {F : Nat} (h : ∀ f, f < F → r f = q f) : bits r F = bits q F := by
  unfold bits
  exact rep_congr F 0 0 (fun g _ h2 b => by rw [h g (by omega)])
theorem whoAt_congr {r q : Nat → Int32} (p : Int32) : ∀ (d f : Nat), (∀ g, f ≤ g → g < f + d → r g = q g) → whoAt r p d f = whoAt q p d f
  | 0, _, _ => rfl
  | d + 1, f, h => by
    rw [whoAt, whoAt, h f (Nat.le_refl _) (by omega), whoAt_congr p d (f + 1) (fun g h1 h2 => h g (by omega) (by omega))]
theorem p_teamSize_28 (h : hN I F S) (hq : Q (.inl (some (.int (ones (bits (I 29) F))))) I T) : ev E 122 0 [some (.ref 28)] [] I T Q := by
  refine s_Coach_teamSize_28_0 ?_
  unfold t_Coach_teamSize_28_0
  refine p_teamBits_28 h ?_
  refine p_bitCount _ ?_
  rw [bc_bits _ h.2.1]
  exact hq
theorem p_teamSize_30 (h : hN I F S) (hq : Q (.inl (some (.int (ones (bits (I 31) F))))) I T) : ev E 122 0 [some (.ref 30)] [] I T Q := by
  refine s_Coach_teamSize_30_0 ?_
  unfold t_Coach_teamSize_30_0
  refine p_teamBits_30 h ?_
  refine p_bitCount _ ?_
  rw [bc_bits _ h.2.1]
  exact hq
end MGET
