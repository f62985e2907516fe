/-! ===== contracts: bits of a team; copies; what the reference changes ===== -/
theorem shr_and (k : Nat) (hk : k < 256) (f : Nat) (hf : f < 8) : ((nI k >>> (nI f &&& 31)) &&& 1) = nI (k / 2 ^ f % 2) := by
  have h : ∀ f : Fin 8, ((nI f.val &&& 31).toBitVec.smod 32).toNat = f.val := by decide +kernel
  rw [pk_shrN (by omega) (nI f &&& 31) f (h ⟨f, hf⟩)]
  exact fa_mask (k / 2 ^ f) 1
theorem bits_tb (r : Nat → Int32) : ∀ (d f m : Nat), f + d ≤ 8 → m < 2 ^ f → ∃ k, k < 2 ^ (f + d) ∧ rep (fun f b => if r f = -1 then b else b ||| ((1 : Int32) <<< (nI f &&& 31))) d f (nI m) = nI k ∧ ∀ g, k.testBit g = (m.testBit g || decide (f ≤ g ∧ g < f + d ∧ r g ≠ -1))
  | 0, f, m, _, hm => ⟨m, hm, rfl, fun g => by
      have : decide (f ≤ g ∧ g < f + 0 ∧ r g ≠ -1) = false := decide_eq_false (fun q => by omega)
      rw [this, Bool.or_false]⟩
  | d + 1, f, m, hf, hm => by
    rw [rep]
    have h2 : m < 2 ^ (f + 1) := Nat.lt_of_lt_of_le hm (Nat.pow_le_pow_right (by omega) (by omega))
    by_cases h : r f = -1
    · rw [if_pos h]
      obtain ⟨k, h1, h3, h4⟩ := bits_tb r d (f + 1) m (by omega) h2
      refine ⟨k, by rw [show f + (d + 1) = f + 1 + d by omega]; exact h1, h3, fun g => ?_⟩
      rw [h4]
      congr 1
      rw [decide_eq_decide]
      constructor
      · rintro ⟨a, b, e⟩; exact ⟨by omega, by omega, e⟩
      · rintro ⟨a, b, e⟩
        refine ⟨?_, by omega, e⟩
        have : g ≠ f := fun z => e (by rw [z]; exact h)
        omega
    · rw [if_neg h, shl_one ⟨f, by omega⟩, fa_or]
      obtain ⟨k, h1, h3, h4⟩ := bits_tb r d (f + 1) (m ||| 2 ^ f) (by omega) (Nat.or_lt_two_pow h2 (Nat.pow_lt_pow_right (by omega) (by omega)))
      refine ⟨k, by rw [show f + (d + 1) = f + 1 + d by omega]; exact h1, h3, fun g => ?_⟩
      rw [h4, fb_bit_set, Bool.or_assoc]
      congr 1
      by_cases hg : g = f
      · subst hg
        rw [decide_eq_true rfl, Bool.true_or]
        exact (decide_eq_true ⟨Nat.le_refl _, by omega, h⟩).symm
      · rw [decide_eq_false hg, Bool.false_or, decide_eq_decide]
        constructor
        · rintro ⟨a, b, e⟩; exact ⟨by omega, by omega, e⟩
        · rintro ⟨a, b, e⟩; exact ⟨by omega, by omega, e⟩
theorem bits_has (r : Nat → Int32) {F : Nat} (hF : F ≤ 8) {f : Nat} (hf : f < F) : (((bits r F) >>> (nI f &&& 31)) &&& 1) = 1 ↔ r f ≠ -1 := by
  obtain ⟨k, h1, h2, h3⟩ := bits_tb r F 0 0 (by omega) (by decide)
  have hk : k < 256 := Nat.lt_of_lt_of_le h1 (show 2 ^ (0 + F) ≤ 2 ^ 8 from Nat.pow_le_pow_right (by omega) (by omega))
  have e : bits r F = nI k := h2
  rw [e, shr_and k hk f (by omega)]
  have h4 := h3 f
  rw [Nat.zero_testBit, Bool.false_or] at h4
  have h5 : k.testBit f = decide (k / 2 ^ f % 2 = 1) := Nat.testBit_eq_decide_div_mod_eq
  rw [h5, decide_eq_decide] at h4
  constructor
  · intro q
    exact (h4.mp ((nI_eq (b := 1) (by omega) (by omega)).mp q)).2.2
  · intro q
    have := h4.mpr ⟨Nat.zero_le _, by omega, q⟩
    rw [this]
    rfl
section CPY
variable {E : MEnv} {I : II} {T : TT} {Q : QQ} {F S n : Nat} {cd : Nat → Nat × Int32}
theorem p_has (x y : Int32) (hq : Q (.inl (some (.int (if ((x >>> (y &&& 31)) &&& 1) = 1 then 1 else 0)))) I T) : ev E 166 0 [some (.int x), some (.int y)] [] I T Q := by
  refine s_M_has_0 ?_
  unfold t_M_has_0 t_M_has_10
  refine ⟨fun q => ?_, fun q => ?_⟩
  · rw [if_pos q] at hq; exact ⟨Or.inr rfl, hq⟩
  · rw [if_neg q] at hq; exact ⟨Or.inl rfl, hq⟩
/-- the trial is what is now: the class's -/
theorem p_copyFrom (hq : Q (.inl none) (m_row I 31 (va_cpy (I 29) (I 31) 0 0 29)) T) : ev E 212 0 [some (.ref 30), some (.ref 28)] [] I T Q := s_Coach_copyFrom_30_28_0 hq
theorem cpy_in {f g : Nat → Int32} {n k : Nat} (h : k < n) : va_cpy f g 0 0 n k = f k := by
  unfold va_cpy
  rw [if_pos ⟨Nat.zero_le _, by omega⟩, Nat.zero_add, Nat.sub_zero]
/-- the reference's -/
theorem l_copies : ∀ (d k : Nat) (r : Nat → Int32), k + d = 29 → Q (.inl none) (m_row I 509 (rep (fun j r => upd r j (I 508 j)) d k r)) T → t_M_copies_508_509_2 E (m_row I 509 r) T Q (nI k)
  | 0, k, r, hk, hq => by
    unfold t_M_copies_508_509_2
    exact ⟨fun _ => hq, fun q => absurd (nI_le (a := 29) (b := k) (by omega) (by omega)) q⟩
  | d + 1, k, r, hk, hq => by
    have e1 : ∀ j, (m_row I 509 r) 508 j = I 508 j := fun _ => rfl
    unfold t_M_copies_508_509_2
    refine ⟨fun q => absurd q (nI_ge (a := k) (b := 29) (by omega) (by omega)), fun _ => ⟨gix (by omega) (by omega), gix (by omega) (by omega), ?_⟩⟩
    rw [nI_clamp (by omega), up_row, e1, nI_1]
    rw [rep] at hq
    exact s_M_copies_508_509_2 (l_copies d (k + 1) _ (by omega) hq)
theorem rep_upd (g : Nat → Int32) : ∀ (d k : Nat) (r : Nat → Int32) (j : Nat), (rep (fun j r => upd r j (g j)) d k r) j = if k ≤ j ∧ j < k + d then g j else r j
  | 0, k, r, j => by rw [if_neg (by omega)]; rfl
  | d + 1, k, r, j => by
    rw [rep, rep_upd g d (k + 1)]
    by_cases h : k + 1 ≤ j ∧ j < k + 1 + d
    · rw [if_pos h, if_pos (by omega)]
    · rw [if_neg h]
      unfold upd
      by_cases h2 : j = k
      · rw [if_pos h2, if_pos (by omega), h2]
      · rw [if_neg h2, if_neg (by omega)]
theorem p_copies (hq : ∀ r, (∀ j, j < 29 → r j = I 508 j) → Q (.inl none) (m_row I 509 r) T) : ev E 147 0 [some (.ref 508), some (.ref 509), none] [] I T Q := by
  refine s_M_copies_508_509_0 ?_
  unfold t_M_copies_508_509_0
  have := l_copies (E := E) (Q := Q) (T := T) (I := I) 29 0 (I 509) (by omega) (hq _ (fun j hj => by rw [rep_upd, if_pos (by omega)]))
  rw [row_self] at this
  exact this
theorem p_tires_508 {f : Nat} (hf : f < 8) (m : Int32) (hq : Q (.inl none) (m_row I 508 (upd (I 508) (16 + f) (if I 508 (16 + f) + m ≤ 999 then I 508 (16 + f) + m else 999))) T) : ev E 167 0 [some (.ref 508), some (.int (nI f)), some (.int m)] [] I T Q := by
  refine s_M_tires_508_0 ?_
  unfold t_M_tires_508_0
  rw [z16]
  refine ⟨gix (by omega) (by omega), ?_⟩
  rw [nI_clamp (by omega)]
  refine p_less _ _ ?_
  refine ⟨⟨nI_pos (n := 16 + f) (by omega), (by omega : 16 + f < 29)⟩, ?_⟩
  rw [up_at]
  exact hq
theorem p_tires_509 {f : Nat} (hf : f < 8) (m : Int32) (hq : Q (.inl none) (m_row I 509 (upd (I 509) (16 + f) (if I 509 (16 + f) + m ≤ 999 then I 509 (16 + f) + m else 999))) T) : ev E 167 0 [some (.ref 509), some (.int (nI f)), some (.int m)] [] I T Q := by
  refine s_M_tires_509_0 ?_
  unfold t_M_tires_509_0
  rw [z16]
  refine ⟨gix (by omega) (by omega), ?_⟩
  rw [nI_clamp (by omega)]
  refine p_less _ _ ?_
  refine ⟨⟨nI_pos (n := 16 + f) (by omega), (by omega : 16 + f < 29)⟩, ?_⟩
  rw [up_at]
  exact hq
end CPY
