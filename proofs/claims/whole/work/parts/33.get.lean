/-! ===== contracts: the house, and the coach's getters ===== -/
/-- how many feelings and stages -/
def hN (I : II) (F S : Nat) : Prop := I 3 5 = nI F ∧ F ≤ 8 ∧ I 3 6 = nI S ∧ S ≤ 6
/-- a fold over numbers from f on, d of them -/
def rep {α : Type} (s : Nat → α → α) : Nat → Nat → α → α
  | 0, _, a => a
  | d + 1, f, a => rep s d (f + 1) (s f a)
theorem rep_congr {α : Type} {s s' : Nat → α → α} : ∀ (d f : Nat) (a : α), (∀ g, f ≤ g → g < f + d → ∀ b, s g b = s' g b) → rep s d f a = rep s' d f a
  | 0, _, _, _ => rfl
  | d + 1, f, a, h => by
    rw [rep, rep, h f (Nat.le_refl _) (by omega), rep_congr d (f + 1) _ (fun g h1 h2 b => h g (by omega) (by omega) b)]
theorem z0 (f : Nat) : (0 : Int32) + nI f = nI f := by rw [show (0 : Int32) = nI 0 from rfl, nI_add, Nat.zero_add]
theorem z8 (f : Nat) : (8 : Int32) + nI f = nI (8 + f) := nI_add 8 f
theorem z16 (f : Nat) : (16 : Int32) + nI f = nI (16 + f) := nI_add 16 f
theorem z26 (f : Nat) : (26 : Int32) + nI f = nI (26 + f) := nI_add 26 f
theorem gix {f n : Nat} (h : f < n) (hn : n < 2 ^ 31) : ¬ nI f < 0 ∧ (nI f).toNatClampNeg < n := ⟨nI_pos (by omega), by rw [nI_clamp (by omega)]; exact h⟩
/-- whose bits are the team -/
def bits (r : Nat → Int32) (F : Nat) : Int32 := rep (fun f b => if r f = -1 then b else b ||| ((1 : Int32) <<< (nI f &&& 31))) F 0 0
/-- who is at a place -/
def whoAt (r : Nat → Int32) (p : Int32) : Nat → Nat → Int32
  | 0, _ => -1
  | d + 1, f => if r f = p then nI f else whoAt r p d (f + 1)
section GET
variable {E : MEnv} {I : II} {T : TT} {Q : QQ} {F S : Nat}
theorem p_isFeeling (h : hN I F S) {f : Nat} (hf : f < 2 ^ 31) (hq : Q (.inl (some (.int (if f < F then 1 else 0)))) I T) : ev E 107 0 [some (.ref 3), some (.int (nI f))] [] I T Q := by
  obtain ⟨hF, h8, -, -⟩ := h
  refine s_House_isFeeling_3_0 ?_
  unfold t_House_isFeeling_3_0 t_House_isFeeling_3_11 t_House_isFeeling_3_12
  rw [hF]
  by_cases h : f < F
  · rw [if_pos h] at hq
    exact ⟨fun q => absurd q (nI_pos hf), fun _ => ⟨fun q => absurd q (nI_ge h (by omega)), fun _ => ⟨fun q => absurd q (nI_ge (a := f) (b := 8) (by omega) (by omega)), fun _ => ⟨Or.inr rfl, hq⟩⟩⟩⟩
  · rw [if_neg h] at hq
    exact ⟨fun q => absurd q (nI_pos hf), fun _ => ⟨fun _ => ⟨Or.inl rfl, hq⟩, fun q => absurd (nI_le (by omega) hf) q⟩⟩
theorem p_isFeeling_m (hq : Q (.inl (some (.int 0))) I T) : ev E 107 0 [some (.ref 3), some (.int (-1))] [] I T Q := by
  refine s_House_isFeeling_3_0 ?_
  unfold t_House_isFeeling_3_0 t_House_isFeeling_3_11 t_House_isFeeling_3_12
  exact ⟨fun _ => ⟨Or.inl rfl, hq⟩, fun q => absurd (by decide) q⟩
theorem p_isStage (h : hN I F S) {f : Nat} (hf : f < 2 ^ 31) (hq : Q (.inl (some (.int (if f < S then 1 else 0)))) I T) : ev E 136 0 [some (.ref 3), some (.int (nI f))] [] I T Q := by
  obtain ⟨-, -, hS, h6⟩ := h
  refine s_House_isStage_3_0 ?_
  unfold t_House_isStage_3_0 t_House_isStage_3_11 t_House_isStage_3_12
  rw [hS]
  by_cases h : f < S
  · rw [if_pos h] at hq
    exact ⟨fun q => absurd q (nI_pos hf), fun _ => ⟨fun q => absurd q (nI_ge h (by omega)), fun _ => ⟨fun q => absurd q (nI_ge (a := f) (b := 6) (by omega) (by omega)), fun _ => ⟨Or.inr rfl, hq⟩⟩⟩⟩
  · rw [if_neg h] at hq
    exact ⟨fun q => absurd q (nI_pos hf), fun _ => ⟨fun _ => ⟨Or.inl rfl, hq⟩, fun q => absurd (nI_le (by omega) hf) q⟩⟩
theorem p_pullOf (h : hN I F S) {f : Nat} (hf : f < 2 ^ 30) (hq : Q (.inl (some (.int (if f < F then I 4 f else 0)))) I T) : ev E 125 0 [some (.ref 3), some (.int (nI f))] [] I T Q := by
  refine s_House_pullOf_3_0 ?_
  unfold t_House_pullOf_3_0 t_House_pullOf_3_10
  refine p_isFeeling h (by omega) ?_
  by_cases h9 : f < F
  · rw [if_pos h9] at hq ⊢
    have hb := h.2.1
    have hb2 := h.2.2.2
    refine ⟨fun q => absurd q (by decide), fun _ => ?_⟩
    skip
    refine ⟨gix (by omega) (by omega), ?_⟩
    rw [nI_clamp (by omega)]
    exact hq
  · rw [if_neg h9] at hq ⊢
    exact ⟨fun _ => hq, fun q => absurd rfl q⟩
theorem p_calmOf (h : hN I F S) {f : Nat} (hf : f < 2 ^ 30) (hq : Q (.inl (some (.int (if f < F then I 5 f else 0)))) I T) : ev E 126 0 [some (.ref 3), some (.int (nI f))] [] I T Q := by
  refine s_House_calmOf_3_0 ?_
  unfold t_House_calmOf_3_0 t_House_calmOf_3_10
  refine p_isFeeling h (by omega) ?_
  by_cases h9 : f < F
  · rw [if_pos h9] at hq ⊢
    have hb := h.2.1
    have hb2 := h.2.2.2
    refine ⟨fun q => absurd q (by decide), fun _ => ?_⟩
    skip
    refine ⟨gix (by omega) (by omega), ?_⟩
    rw [nI_clamp (by omega)]
    exact hq
  · rw [if_neg h9] at hq ⊢
    exact ⟨fun _ => hq, fun q => absurd rfl q⟩
theorem p_foesOf (h : hN I F S) {f : Nat} (hf : f < 2 ^ 30) (hq : Q (.inl (some (.int (if f < F then I 6 f else 0)))) I T) : ev E 111 0 [some (.ref 3), some (.int (nI f))] [] I T Q := by
  refine s_House_foesOf_3_0 ?_
  unfold t_House_foesOf_3_0 t_House_foesOf_3_10
  refine p_isFeeling h (by omega) ?_
  by_cases h9 : f < F
  · rw [if_pos h9] at hq ⊢
    have hb := h.2.1
    have hb2 := h.2.2.2
    refine ⟨fun q => absurd q (by decide), fun _ => ?_⟩
    skip
    refine ⟨gix (by omega) (by omega), ?_⟩
    rw [nI_clamp (by omega)]
    exact hq
  · rw [if_neg h9] at hq ⊢
    exact ⟨fun _ => hq, fun q => absurd rfl q⟩
theorem p_lengthOf (h : hN I F S) {f : Nat} (hf : f < 2 ^ 30) (hq : Q (.inl (some (.int (if f < S then I 7 f else 0)))) I T) : ev E 135 0 [some (.ref 3), some (.int (nI f))] [] I T Q := by
  refine s_House_lengthOf_3_0 ?_
  unfold t_House_lengthOf_3_0 t_House_lengthOf_3_10
  refine p_isStage h (by omega) ?_
  by_cases h9 : f < S
  · rw [if_pos h9] at hq ⊢
    have hb := h.2.1
    have hb2 := h.2.2.2
    refine ⟨fun q => absurd q (by decide), fun _ => ?_⟩
    skip
    refine ⟨gix (by omega) (by omega), ?_⟩
    rw [nI_clamp (by omega)]
    exact hq
  · rw [if_neg h9] at hq ⊢
    exact ⟨fun _ => hq, fun q => absurd rfl q⟩
theorem p_turnOf (h : hN I F S) {f : Nat} (hf : f < 2 ^ 30) (hq : Q (.inl (some (.int (if f < S then I 8 f else 0)))) I T) : ev E 137 0 [some (.ref 3), some (.int (nI f))] [] I T Q := by
  refine s_House_turnOf_3_0 ?_
  unfold t_House_turnOf_3_0 t_House_turnOf_3_10
  refine p_isStage h (by omega) ?_
  by_cases h9 : f < S
  · rw [if_pos h9] at hq ⊢
    have hb := h.2.1
    have hb2 := h.2.2.2
    refine ⟨fun q => absurd q (by decide), fun _ => ?_⟩
    skip
    refine ⟨gix (by omega) (by omega), ?_⟩
    rw [nI_clamp (by omega)]
    exact hq
  · rw [if_neg h9] at hq ⊢
    exact ⟨fun _ => hq, fun q => absurd rfl q⟩
theorem p_leastStrength (h : hN I F S) {f : Nat} (hf : f < 2 ^ 30) (hq : Q (.inl (some (.int ((if f < S then I 7 f else 0) / 3 + 1)))) I T) : ev E 134 0 [some (.ref 3), some (.int (nI f))] [] I T Q := by
  refine s_House_leastStrength_3_0 ?_
  unfold t_House_leastStrength_3_0
  refine p_lengthOf h hf ?_
  exact hq
theorem p_placeOf_28 (h : hN I F S) {f : Nat} (hf : f < 2 ^ 30) (hq : Q (.inl (some (.int (if f < F then I 29 f else (-1))))) I T) : ev E 109 0 [some (.ref 28), some (.int (nI f))] [] I T Q := by
  refine s_Coach_placeOf_28_0 ?_
  unfold t_Coach_placeOf_28_0 t_Coach_placeOf_28_13
  refine p_isFeeling h (by omega) ?_
  by_cases h9 : f < F
  · rw [if_pos h9] at hq ⊢
    have hb := h.2.1
    have hb2 := h.2.2.2
    refine ⟨fun q => absurd q (by decide), fun _ => ?_⟩
    rw [z0]
    refine ⟨gix (by omega) (by omega), ?_⟩
    rw [nI_clamp (by omega)]
    exact hq
  · rw [if_neg h9] at hq ⊢
    exact ⟨fun _ => hq, fun q => absurd rfl q⟩
theorem p_tightOf_28 (h : hN I F S) {f : Nat} (hf : f < 2 ^ 30) (hq : Q (.inl (some (.int (if f < F then I 29 (8 + f) else 0)))) I T) : ev E 113 0 [some (.ref 28), some (.int (nI f))] [] I T Q := by
  refine s_Coach_tightOf_28_0 ?_
  unfold t_Coach_tightOf_28_0 t_Coach_tightOf_28_13
  refine p_isFeeling h (by omega) ?_
  by_cases h9 : f < F
  · rw [if_pos h9] at hq ⊢
    have hb := h.2.1
    have hb2 := h.2.2.2
    refine ⟨fun q => absurd q (by decide), fun _ => ?_⟩
    rw [z8]
    refine ⟨gix (by omega) (by omega), ?_⟩
    rw [nI_clamp (by omega)]
    exact hq
  · rw [if_neg h9] at hq ⊢
    exact ⟨fun _ => hq, fun q => absurd rfl q⟩
theorem p_tiredOf_28 (h : hN I F S) {f : Nat} (hf : f < 2 ^ 30) (hq : Q (.inl (some (.int (if f < F then I 29 (16 + f) else 0)))) I T) : ev E 127 0 [some (.ref 28), some (.int (nI f))] [] I T Q := by
  refine s_Coach_tiredOf_28_0 ?_
  unfold t_Coach_tiredOf_28_0 t_Coach_tiredOf_28_13
  refine p_isFeeling h (by omega) ?_
  by_cases h9 : f < F
  · rw [if_pos h9] at hq ⊢
    have hb := h.2.1
    have hb2 := h.2.2.2
    refine ⟨fun q => absurd q (by decide), fun _ => ?_⟩
    rw [z16]
    refine ⟨gix (by omega) (by omega), ?_⟩
    rw [nI_clamp (by omega)]
    exact hq
  · rw [if_neg h9] at hq ⊢
    exact ⟨fun _ => hq, fun q => absurd rfl q⟩
theorem p_hasPlace_28 (h : hN I F S) {f : Nat} (hf : f < 2 ^ 30) (hq : Q (.inl (some (.int (if f < F ∧ I 29 f ≠ -1 then 1 else 0)))) I T) : ev E 108 0 [some (.ref 28), some (.int (nI f))] [] I T Q := by
  refine s_Coach_hasPlace_28_0 ?_
  unfold t_Coach_hasPlace_28_0 t_Coach_hasPlace_28_8
  refine p_placeOf_28 h hf ?_
  by_cases h9 : f < F
  · rw [if_pos h9]
    by_cases hp : I 29 f = -1
    · rw [if_neg (fun q => q.2 hp)] at hq
      exact ⟨fun _ => ⟨Or.inl rfl, hq⟩, fun q => absurd hp q⟩
    · rw [if_pos ⟨h9, hp⟩] at hq
      exact ⟨fun q => absurd q hp, fun _ => ⟨Or.inr rfl, hq⟩⟩
  · rw [if_neg h9]
    rw [if_neg (fun q => h9 q.1)] at hq
    exact ⟨fun _ => ⟨Or.inl rfl, hq⟩, fun q => absurd rfl q⟩
theorem p_day_28 (hq : Q (.inl (some (.int (I 29 24)))) I T) : ev E 116 0 [some (.ref 28)] [] I T Q := s_Coach_day_28_0 hq
theorem p_behind_28 (hq : Q (.inl (some (.int (I 29 25)))) I T) : ev E 115 0 [some (.ref 28)] [] I T Q := s_Coach_behind_28_0 hq
theorem l_teamBits_28 (h : hN I F S) : ∀ (d f : Nat) (b : Int32), f + d = F → Q (.inl (some (.int (rep (fun f b => if I 29 f = -1 then b else b ||| ((1 : Int32) <<< (nI f &&& 31))) d f b)))) I T → t_Coach_teamBits_28_4 E I T Q b (nI f)
  | 0, f, b, hf, hq => by
    unfold t_Coach_teamBits_28_4 t_Coach_teamBits_28_28
    rw [h.1]
    have := h.2.1
    exact ⟨fun _ => hq, fun q => absurd (nI_le (by omega) (by omega)) q⟩
  | d + 1, f, b, hf, hq => by
    have h8 := h.2.1
    unfold t_Coach_teamBits_28_4 t_Coach_teamBits_28_28 t_Coach_teamBits_28_26
    rw [h.1]
    refine ⟨fun q => absurd q (nI_ge (by omega) (by omega)), fun _ => ⟨fun q => absurd q (nI_ge (a := f) (b := 8) (by omega) (by omega)), fun _ => ?_⟩⟩
    rw [z0]
    refine ⟨gix (by omega) (by omega), ?_⟩
    rw [nI_clamp (by omega), nI_1]
    rw [rep] at hq
    refine ⟨fun q => ?_, fun q => ?_⟩
    · rw [if_pos q] at hq
      exact s_Coach_teamBits_28_4 (l_teamBits_28 h d (f + 1) _ (by omega) hq)
    · rw [if_neg q] at hq
      exact s_Coach_teamBits_28_4 (l_teamBits_28 h d (f + 1) _ (by omega) hq)
theorem p_teamBits_28 (h : hN I F S) (hq : Q (.inl (some (.int (bits (I 29) F)))) I T) : ev E 112 0 [some (.ref 28), none, none] [] I T Q :=
  s_Coach_teamBits_28_0 (l_teamBits_28 h F 0 0 (by omega) hq)
theorem l_whoIsAt_28 (h : hN I F S) (p : Int32) : ∀ (d f : Nat), f + d = F → Q (.inl (some (.int (whoAt (I 29) p d f)))) I T → t_Coach_whoIsAt_28_2 E I T Q p (nI f)
  | 0, f, hf, hq => by
    unfold t_Coach_whoIsAt_28_2
    rw [h.1]
    have := h.2.1
    exact ⟨fun _ => hq, fun q => absurd (nI_le (by omega) (by omega)) q⟩
  | d + 1, f, hf, hq => by
    have h8 := h.2.1
    unfold t_Coach_whoIsAt_28_2
    rw [h.1]
    refine ⟨fun q => absurd q (nI_ge (by omega) (by omega)), fun _ => ?_⟩
    refine p_placeOf_28 h (by omega) ?_
    rw [if_pos (by omega)]
    rw [whoAt] at hq
    refine ⟨fun q => ?_, fun q => ?_⟩
    · rw [if_pos q] at hq
      exact hq
    · rw [if_neg q] at hq
      rw [nI_1]
      exact s_Coach_whoIsAt_28_2 (l_whoIsAt_28 h p d (f + 1) (by omega) hq)
theorem p_whoIsAt_28 (h : hN I F S) (p : Int32) (hq : Q (.inl (some (.int (whoAt (I 29) p F 0)))) I T) : ev E 110 0 [some (.ref 28), some (.int p), none] [] I T Q :=
  s_Coach_whoIsAt_28_0 (l_whoIsAt_28 h p F 0 (by omega) hq)
theorem p_placeOf_30 (h : hN I F S) {f : Nat} (hf : f < 2 ^ 30) (hq : Q (.inl (some (.int (if f < F then I 31 f else (-1))))) I T) : ev E 109 0 [some (.ref 30), some (.int (nI f))] [] I T Q := by
  refine s_Coach_placeOf_30_0 ?_
  unfold t_Coach_placeOf_30_0 t_Coach_placeOf_30_13
  refine p_isFeeling h (by omega) ?_
  by_cases h9 : f < F
  · rw [if_pos h9] at hq ⊢
    have hb := h.2.1
    have hb2 := h.2.2.2
    refine ⟨fun q => absurd q (by decide), fun _ => ?_⟩
    rw [z0]
    refine ⟨gix (by omega) (by omega), ?_⟩
    rw [nI_clamp (by omega)]
    exact hq
  · rw [if_neg h9] at hq ⊢
    exact ⟨fun _ => hq, fun q => absurd rfl q⟩
theorem p_tightOf_30 (h : hN I F S) {f : Nat} (hf : f < 2 ^ 30) (hq : Q (.inl (some (.int (if f < F then I 31 (8 + f) else 0)))) I T) : ev E 113 0 [some (.ref 30), some (.int (nI f))] [] I T Q := by
  refine s_Coach_tightOf_30_0 ?_
  unfold t_Coach_tightOf_30_0 t_Coach_tightOf_30_13
  refine p_isFeeling h (by omega) ?_
  by_cases h9 : f < F
  · rw [if_pos h9] at hq ⊢
    have hb := h.2.1
    have hb2 := h.2.2.2
    refine ⟨fun q => absurd q (by decide), fun _ => ?_⟩
    rw [z8]
    refine ⟨gix (by omega) (by omega), ?_⟩
    rw [nI_clamp (by omega)]
    exact hq
  · rw [if_neg h9] at hq ⊢
    exact ⟨fun _ => hq, fun q => absurd rfl q⟩
theorem p_tiredOf_30 (h : hN I F S) {f : Nat} (hf : f < 2 ^ 30) (hq : Q (.inl (some (.int (if f < F then I 31 (16 + f) else 0)))) I T) : ev E 127 0 [some (.ref 30), some (.int (nI f))] [] I T Q := by
  refine s_Coach_tiredOf_30_0 ?_
  unfold t_Coach_tiredOf_30_0 t_Coach_tiredOf_30_13
  refine p_isFeeling h (by omega) ?_
  by_cases h9 : f < F
  · rw [if_pos h9] at hq ⊢
    have hb := h.2.1
    have hb2 := h.2.2.2
    refine ⟨fun q => absurd q (by decide), fun _ => ?_⟩
    rw [z16]
    refine ⟨gix (by omega) (by omega), ?_⟩
    rw [nI_clamp (by omega)]
    exact hq
  · rw [if_neg h9] at hq ⊢
    exact ⟨fun _ => hq, fun q => absurd rfl q⟩
theorem p_hasPlace_30 (h : hN I F S) {f : Nat} (hf : f < 2 ^ 30) (hq : Q (.inl (some (.int (if f < F ∧ I 31 f ≠ -1 then 1 else 0)))) I T) : ev E 108 0 [some (.ref 30), some (.int (nI f))] [] I T Q := by
  refine s_Coach_hasPlace_30_0 ?_
  unfold t_Coach_hasPlace_30_0 t_Coach_hasPlace_30_8
  refine p_placeOf_30 h hf ?_
  by_cases h9 : f < F
  · rw [if_pos h9]
    by_cases hp : I 31 f = -1
    · rw [if_neg (fun q => q.2 hp)] at hq
      exact ⟨fun _ => ⟨Or.inl rfl, hq⟩, fun q => absurd hp q⟩
    · rw [if_pos ⟨h9, hp⟩] at hq
      exact ⟨fun q => absurd q hp, fun _ => ⟨Or.inr rfl, hq⟩⟩
  · rw [if_neg h9]
    rw [if_neg (fun q => h9 q.1)] at hq
    exact ⟨fun _ => ⟨Or.inl rfl, hq⟩, fun q => absurd rfl q⟩
theorem p_day_30 (hq : Q (.inl (some (.int (I 31 24)))) I T) : ev E 116 0 [some (.ref 30)] [] I T Q := s_Coach_day_30_0 hq
theorem p_behind_30 (hq : Q (.inl (some (.int (I 31 25)))) I T) : ev E 115 0 [some (.ref 30)] [] I T Q := s_Coach_behind_30_0 hq
theorem l_teamBits_30 (h : hN I F S) : ∀ (d f : Nat) (b : Int32), f + d = F → Q (.inl (some (.int (rep (fun f b => if I 31 f = -1 then b else b ||| ((1 : Int32) <<< (nI f &&& 31))) d f b)))) I T → t_Coach_teamBits_30_4 E I T Q b (nI f)
  | 0, f, b, hf, hq => by
    unfold t_Coach_teamBits_30_4 t_Coach_teamBits_30_28
    rw [h.1]
    have := h.2.1
    exact ⟨fun _ => hq, fun q => absurd (nI_le (by omega) (by omega)) q⟩
  | d + 1, f, b, hf, hq => by
    have h8 := h.2.1
    unfold t_Coach_teamBits_30_4 t_Coach_teamBits_30_28 t_Coach_teamBits_30_26
    rw [h.1]
    refine ⟨fun q => absurd q (nI_ge (by omega) (by omega)), fun _ => ⟨fun q => absurd q (nI_ge (a := f) (b := 8) (by omega) (by omega)), fun _ => ?_⟩⟩
    rw [z0]
    refine ⟨gix (by omega) (by omega), ?_⟩
    rw [nI_clamp (by omega), nI_1]
    rw [rep] at hq
    refine ⟨fun q => ?_, fun q => ?_⟩
    · rw [if_pos q] at hq
      exact s_Coach_teamBits_30_4 (l_teamBits_30 h d (f + 1) _ (by omega) hq)
    · rw [if_neg q] at hq
      exact s_Coach_teamBits_30_4 (l_teamBits_30 h d (f + 1) _ (by omega) hq)
theorem p_teamBits_30 (h : hN I F S) (hq : Q (.inl (some (.int (bits (I 31) F)))) I T) : ev E 112 0 [some (.ref 30), none, none] [] I T Q :=
  s_Coach_teamBits_30_0 (l_teamBits_30 h F 0 0 (by omega) hq)
theorem l_whoIsAt_30 (h : hN I F S) (p : Int32) : ∀ (d f : Nat), f + d = F → Q (.inl (some (.int (whoAt (I 31) p d f)))) I T → t_Coach_whoIsAt_30_2 E I T Q p (nI f)
  | 0, f, hf, hq => by
    unfold t_Coach_whoIsAt_30_2
    rw [h.1]
    have := h.2.1
    exact ⟨fun _ => hq, fun q => absurd (nI_le (by omega) (by omega)) q⟩
  | d + 1, f, hf, hq => by
    have h8 := h.2.1
    unfold t_Coach_whoIsAt_30_2
    rw [h.1]
    refine ⟨fun q => absurd q (nI_ge (by omega) (by omega)), fun _ => ?_⟩
    refine p_placeOf_30 h (by omega) ?_
    rw [if_pos (by omega)]
    rw [whoAt] at hq
    refine ⟨fun q => ?_, fun q => ?_⟩
    · rw [if_pos q] at hq
      exact hq
    · rw [if_neg q] at hq
      rw [nI_1]
      exact s_Coach_whoIsAt_30_2 (l_whoIsAt_30 h p d (f + 1) (by omega) hq)
theorem p_whoIsAt_30 (h : hN I F S) (p : Int32) (hq : Q (.inl (some (.int (whoAt (I 31) p F 0)))) I T) : ev E 110 0 [some (.ref 30), some (.int p), none] [] I T Q :=
  s_Coach_whoIsAt_30_0 (l_whoIsAt_30 h p F 0 (by omega) hq)
end GET
