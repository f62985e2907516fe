/-! ===== house: begun anew ===== -/
def row0 (j : Nat) : Int32 := if j < 8 then -1 else if j < 16 then 5 else 0
section ANEW
variable {E : MEnv} {B I : II} {T : TT} {Q : QQ} {N : Nat} {w : Nat → Nat}
theorem q_copyH (hq : ∀ J, FR [3, 4, 5, 6, 7, 8] I J → (J 3 5 = I 9 5 ∧ J 3 6 = I 9 6 ∧ J 3 7 = I 9 7) → (∀ f, f < 8 → J 4 f = I 10 f ∧ J 5 f = I 11 f ∧ J 6 f = I 12 f) → (∀ s, s < 6 → J 7 s = I 13 s ∧ J 8 s = I 14 s) → Q (.inl none) J T) : ev E 54 0 [some (.ref 3), some (.ref 9)] [] I T Q := by
  refine s_House_copyFrom_3_0 ?_
  unfold t_House_copyFrom_3_0
  generalize e1 : m_row I 4 (va_cpy (I 10) (I 4) 0 0 8) = A
  generalize e2 : m_row A 5 (va_cpy (A 11) (A 5) 0 0 8) = C
  generalize e3 : m_row C 6 (va_cpy (C 12) (C 6) 0 0 8) = D
  generalize e4 : m_row D 7 (va_cpy (D 13) (D 7) 0 0 6) = G
  generalize e5 : m_row G 8 (va_cpy (G 14) (G 8) 0 0 6) = H
  generalize e6 : m_up H 3 5 (H 9 5) = K
  generalize e7 : m_up K 3 6 (K 9 6) = L
  have a1 : ∀ c, c ≠ 4 → A c = I c := fun c h => by rw [← e1, m_row_ne h]
  have a2 : ∀ c, c ≠ 5 → C c = A c := fun c h => by rw [← e2, m_row_ne h]
  have a3 : ∀ c, c ≠ 6 → D c = C c := fun c h => by rw [← e3, m_row_ne h]
  have a4 : ∀ c, c ≠ 7 → G c = D c := fun c h => by rw [← e4, m_row_ne h]
  have a5 : ∀ c, c ≠ 8 → H c = G c := fun c h => by rw [← e5, m_row_ne h]
  have a6 : ∀ c, c ≠ 3 → K c = H c := fun c h => by rw [← e6, m_up_ne h]
  have a7 : ∀ c, c ≠ 3 → L c = K c := fun c h => by rw [← e7, m_up_ne h]
  have k9 : H 9 = I 9 := by rw [a5 9 (by omega), a4 9 (by omega), a3 9 (by omega), a2 9 (by omega), a1 9 (by omega)]
  refine hq _ (fun c hc => ?_) ⟨?_, ?_, ?_⟩ (fun f hf => ⟨?_, ?_, ?_⟩) (fun s hs => ⟨?_, ?_⟩)
  · have hc : c ≠ 3 ∧ c ≠ 4 ∧ c ≠ 5 ∧ c ≠ 6 ∧ c ≠ 7 ∧ c ≠ 8 := by simp at hc; omega
    rw [m_up_ne hc.1, a7 c hc.1, a6 c hc.1, a5 c (by omega), a4 c (by omega), a3 c (by omega), a2 c (by omega), a1 c (by omega)]
  · rw [m_up_at, if_neg (by omega), ← e7, m_up_at, if_neg (by omega), ← e6, m_up_at, if_pos rfl, k9]
  · rw [m_up_at, if_neg (by omega), ← e7, m_up_at, if_pos rfl, a6 9 (by omega), k9]
  · rw [m_up_at, if_pos rfl, a7 9 (by omega), a6 9 (by omega), k9]
  · rw [m_up_ne (by omega), a7 4 (by omega), a6 4 (by omega), a5 4 (by omega), a4 4 (by omega), a3 4 (by omega), a2 4 (by omega), ← e1, m_row_at, cpy_in hf]
  · rw [m_up_ne (by omega), a7 5 (by omega), a6 5 (by omega), a5 5 (by omega), a4 5 (by omega), a3 5 (by omega), ← e2, m_row_at, cpy_in hf, a1 11 (by omega)]
  · rw [m_up_ne (by omega), a7 6 (by omega), a6 6 (by omega), a5 6 (by omega), a4 6 (by omega), ← e3, m_row_at, cpy_in hf, a2 12 (by omega), a1 12 (by omega)]
  · rw [m_up_ne (by omega), a7 7 (by omega), a6 7 (by omega), a5 7 (by omega), ← e4, m_row_at, cpy_in hs, a3 13 (by omega), a2 13 (by omega), a1 13 (by omega)]
  · rw [m_up_ne (by omega), a7 8 (by omega), a6 8 (by omega), ← e5, m_row_at, cpy_in hs, a4 14 (by omega), a3 14 (by omega), a2 14 (by omega), a1 14 (by omega)]
/-- what is emitted, so far -/
def emH (I J : II) (c : Nat → Int32) (k : Nat) : Prop := FR [15, 17] I J ∧ (∀ j, j ≠ 5 → J 15 j = I 15 j) ∧ J 15 5 = nI k ∧ ∀ j, j < k → J 17 j = c j
theorem q_emit {J : II} {c : Nat → Int32} {k : Nat} (h : emH I J c k) (hk : k < 150) {x : Int32} (hx : x = c k) (hq : ∀ K, emH I K c (k + 1) → Q (.inl none) K T) : ev E 6 0 [some (.ref 15), some (.int x)] [] J T Q := by
  obtain ⟨a1, a2, a3, a4⟩ := h
  subst hx
  refine s_Law_emit_0 ?_
  unfold t_Law_emit_0 t_Law_emit_18
  rw [a3, nI_clamp (by omega)]
  refine bq_f (nI_ge (a := k) (b := 150) (by omega) (by omega)) ⟨⟨nI_pos (by omega), hk⟩, ?_⟩
  have e : (m_up J 17 k (c k)) 15 5 = nI k := a3
  rw [e, nI_1]
  refine hq _ ⟨(a1.trans (FR.up (by decide) _ _)).trans (FR.up (by decide) _ _), fun j hj => ?_, rfl, fun j hj => ?_⟩
  · rw [m_up_at, if_neg hj]; exact a2 j hj
  · rw [m_up_ne (by omega), m_up_at]
    by_cases z : j = k
    · rw [if_pos z, z]
    · rw [if_neg z]; exact a4 j (by omega)
theorem q_accept {J : II} {n : Nat} {cd : Nat → Nat × Int32} (hn : n ≤ 150) (h : emH I J (fun k => ccode (cd k)) n) (hq : ∀ K, FR [15, 16, 17] I K → lawC K n cd → Q (.inl none) K T) : ev E 7 0 [some (.ref 15)] [] J T Q := by
  obtain ⟨a1, a2, a3, a4⟩ := h
  refine s_Law_accept_0 ?_
  unfold t_Law_accept_0
  have e : (m_row J 16 (va_cpy (J 17) (J 16) 0 0 150)) 15 5 = nI n := a3
  rw [e]
  refine hq _ (((a1.mono (by decide)).trans (FR.row (by decide) _)).trans (FR.up (by decide) _ _)) ⟨rfl, fun k hk => ?_⟩
  rw [m_up_ne (by omega), m_row_at, cpy_in (by omega)]
  exact a4 k hk
theorem q_lawClear (hq : ∀ K, FR [15, 16, 17] I K → lawC K 7 cd0 → Q (.inl none) K T) : ev E 5 0 [some (.ref 15)] [] I T Q := by
  refine s_Law_clear_0 ?_
  unfold t_Law_clear_0
  have h0 : emH (m_up I 15 5 0) (m_up I 15 5 0) (fun k => ccode (cd0 k)) 0 := ⟨FR.refl _ _, fun _ _ => rfl, rfl, fun j hj => absurd hj (by omega)⟩
  refine q_emit h0 (by omega) (by decide) (fun J1 h1 => ?_)
  refine q_emit h1 (by omega) (by decide) (fun J2 h2 => ?_)
  refine q_emit h2 (by omega) (by decide) (fun J3 h3 => ?_)
  refine q_emit h3 (by omega) (by decide) (fun J4 h4 => ?_)
  refine q_emit h4 (by omega) (by decide) (fun J5 h5 => ?_)
  refine q_emit h5 (by omega) (by decide) (fun J6 h6 => ?_)
  refine q_emit h6 (by omega) (by decide) (fun J7 h7 => ?_)
  refine q_accept (by omega) h7 (fun K hK hC => ?_)
  exact hq K ((FR.up (by decide) _ _).trans hK) hC
theorem l_bkc : ∀ (d k : Nat) (J : II), k + d = 8 → FR [21] I J → (∀ j, j < k → J 21 j = -1) → (∀ K, FR [20, 21] I K → K 20 2 = 0 → (∀ j, j < 8 → K 21 j = -1) → Q (.inl none) K T) → t_Book_clear_2 E J T Q (nI k)
  | 0, k, J, hk, fr, h, hq => by
    have e : k = 8 := by omega
    subst e
    unfold t_Book_clear_2
    exact bq_t (by decide) (hq _ ((fr.mono (by decide)).trans (FR.up (by decide) _ _)) rfl h)
  | d + 1, k, J, hk, fr, h, hq => by
    unfold t_Book_clear_2
    refine bq_f (nI_ge (a := k) (b := 8) (by omega) (by omega)) ⟨gix (by omega) (by omega), ?_⟩
    rw [nI_clamp (by omega), nI_1]
    refine s_Book_clear_2 (l_bkc d (k + 1) _ (by omega) (fr.trans (FR.up (by decide) _ _)) (fun j hj => ?_) hq)
    rw [m_up_at]
    by_cases c : j = k
    · rw [if_pos c]
    · rw [if_neg c]; exact h j (by omega)
theorem q_bkClear (hq : ∀ K, FR [20, 21] I K → K 20 2 = 0 → (∀ j, j < 8 → K 21 j = -1) → Q (.inl none) K T) : ev E 9 0 [some (.ref 20), none] [] I T Q := s_Book_clear_0 (l_bkc 8 0 I (by omega) (FR.refl _ _) (fun j hj => absurd hj (by omega)) hq)
theorem l_start : ∀ (d k : Nat) (J : II), k + d = 29 → FR [29] I J → (∀ j, j < k → J 29 j = row0 j) → (∀ K, FR [29] I K → (∀ j, j < 29 → K 29 j = row0 j) → Q (.inl none) K T) → t_Coach_start_28_2 E J T Q (nI k)
  | 0, k, J, hk, fr, h, hq => by
    have e : k = 29 := by omega
    subst e
    unfold t_Coach_start_28_2
    exact bq_t (by decide) (hq J fr h)
  | d + 1, k, J, hk, fr, h, hq => by
    have go : t_Coach_start_28_19 E J T Q (nI k) (nI k) (row0 k) := by
      unfold t_Coach_start_28_19
      refine ⟨gix (by omega) (by omega), ?_⟩
      rw [nI_clamp (by omega), nI_1]
      refine s_Coach_start_28_2 (l_start d (k + 1) _ (by omega) (fr.trans (FR.up (by decide) _ _)) (fun j hj => ?_) hq)
      rw [m_up_at]
      by_cases c : j = k
      · rw [if_pos c, c]
      · rw [if_neg c]; exact h j (by omega)
    unfold t_Coach_start_28_2
    refine bq_f (nI_ge (a := k) (b := 29) (by omega) (by omega)) ?_
    by_cases c8 : 8 ≤ k
    · refine bq_t (nI_le (a := 8) (b := k) c8 (by omega)) ?_
      by_cases c16 : 16 ≤ k
      · have e : row0 k = 0 := by unfold row0; rw [if_neg (by omega), if_neg (by omega)]
        rw [e] at go
        exact bq_t (nI_le (a := 16) (b := k) c16 (by omega)) go
      · have e : row0 k = 5 := by unfold row0; rw [if_neg (by omega), if_pos (by omega)]
        rw [e] at go
        exact bq_f (nI_ge (a := k) (b := 16) (by omega) (by omega)) go
    · have e : row0 k = -1 := by unfold row0; rw [if_pos (by omega)]
      rw [e] at go
      exact bq_f (nI_ge (a := k) (b := 8) (by omega) (by omega)) go
theorem q_start (hq : ∀ K, FR [29] I K → (∀ j, j < 29 → K 29 j = row0 j) → Q (.inl none) K T) : ev E 16 0 [some (.ref 28), none] [] I T Q := s_Coach_start_28_0 (l_start 29 0 I (by omega) (FR.refl _ _) (fun j hj => absurd hj (by omega)) hq)
theorem l_tells : ∀ (d k : Nat) (J : II), k + d = 8 → FR [83] I J → (∀ j, j < k → J 83 j = 0) → (∀ K, FR [83] I K → (∀ j, j < 8 → K 83 j = 0) → Q (.inl none) K T) → t_M_tellsNothing_17 E J T Q (nI k)
  | 0, k, J, hk, fr, h, hq => by
    have e : k = 8 := by omega
    subst e
    unfold t_M_tellsNothing_17
    exact bq_t (by decide) (hq J fr h)
  | d + 1, k, J, hk, fr, h, hq => by
    unfold t_M_tellsNothing_17
    refine bq_f (nI_ge (a := k) (b := 8) (by omega) (by omega)) ⟨gix (by omega) (by omega), ?_⟩
    rw [nI_clamp (by omega), nI_1]
    refine s_M_tellsNothing_17 (l_tells d (k + 1) _ (by omega) (fr.trans (FR.up (by decide) _ _)) (fun j hj => ?_) hq)
    rw [m_up_at]
    by_cases c : j = k
    · rw [if_pos c]
    · rw [if_neg c]; exact h j (by omega)
theorem qn_tells (hq : ∀ K, FR [49, 83] I K → hsM K hs0 → Q (.inl none) K T) : ev E 18 0 [some (.ref 46), none] [] I T Q := by
  refine s_M_tellsNothing_0 ?_
  unfold t_M_tellsNothing_0
  refine l_tells (I := m_up (m_up (m_up I 49 0 0) 49 1 0) 49 2 12) 8 0 _ (by omega) (FR.refl _ _) (fun j hj => absurd hj (by omega)) (fun K fr h => ?_)
  have e49 := fr 49 (by decide)
  refine hq K ((((FR.up (by decide) _ _).trans (FR.up (by decide) _ _)).trans (FR.up (by decide) _ _)).trans (fr.mono (by decide))) ⟨?_, ?_, ?_, fun f hf => absurd hf (Nat.not_lt_zero _), fun f hf => h f hf, fun s hs => absurd hs (Nat.not_lt_zero _)⟩
  · rw [e49]; rfl
  · rw [e49]; rfl
  · rw [e49]; rfl
theorem l_an47 : ∀ (d k : Nat) (J : II), k + d = 8 → FR [84, 508] I J → (∀ j, j < k → J 84 j = I 83 j) → (∀ j, J 508 j = if j < k then -1 else if 8 ≤ j ∧ j < 8 + k then 5 else I 508 j) → (∀ K, FR [46, 84, 508] I K → (∀ j, j < 8 → K 84 j = I 83 j) → (∀ j, K 508 j = if j < 8 then -1 else if 8 ≤ j ∧ j < 16 then 5 else I 508 j) → (∀ j, K 46 j = if j = 19 ∨ (33 ≤ j ∧ j ≤ 36) then 0 else I 46 j) → Q (.inl none) K T) → t_M_beginsAnew_47 E J T Q (nI k)
  | 0, k, J, hk, fr, h1, h2, hq => by
    have e : k = 8 := by omega
    subst e
    unfold t_M_beginsAnew_47
    refine bq_t (by decide) (hq _ ((((((fr.mono (by decide)).trans (FR.up (by decide) _ _)).trans (FR.up (by decide) _ _)).trans (FR.up (by decide) _ _)).trans (FR.up (by decide) _ _)).trans (FR.up (by decide) _ _)) h1 h2 (fun j => ?_))
    rw [m_up_at, m_up_at, m_up_at, m_up_at, m_up_at, fr 46 (by decide)]
    by_cases a : j = 36
    · rw [if_pos a, if_pos (by omega)]
    · rw [if_neg a]
      by_cases b : j = 35
      · rw [if_pos b, if_pos (by omega)]
      · rw [if_neg b]
        by_cases c : j = 34
        · rw [if_pos c, if_pos (by omega)]
        · rw [if_neg c]
          by_cases d : j = 33
          · rw [if_pos d, if_pos (by omega)]
          · rw [if_neg d]
            by_cases e : j = 19
            · rw [if_pos e, if_pos (by omega)]
            · rw [if_neg e, if_neg (by omega)]
  | d + 1, k, J, hk, fr, h1, h2, hq => by
    unfold t_M_beginsAnew_47
    have z0 : (0 + nI k : Int32) = nI k := by have := nI_add 0 k; rw [Nat.zero_add] at this; exact this
    have z8 : (8 + nI k : Int32) = nI (8 + k) := nI_add 8 k
    rw [z0, z8, nI_clamp (by omega), nI_clamp (by omega), nI_1, fr 83 (by decide)]
    refine bq_f (nI_ge (a := k) (b := 8) (by omega) (by omega)) ⟨⟨nI_pos (by omega), by omega⟩, ⟨nI_pos (by omega), by omega⟩, ⟨nI_pos (by omega), by omega⟩, ⟨nI_pos (by omega), by omega⟩, ?_⟩
    refine s_M_beginsAnew_47 (l_an47 d (k + 1) _ (by omega) (((fr.trans (FR.up (by decide) _ _)).trans (FR.up (by decide) _ _)).trans (FR.up (by decide) _ _)) (fun j hj => ?_) (fun j => ?_) hq)
    · rw [m_up_ne (by omega), m_up_ne (by omega), m_up_at]
      by_cases c : j = k
      · rw [if_pos c, c]
      · rw [if_neg c]; exact h1 j (by omega)
    · rw [m_up_at, m_up_at, m_up_ne (by omega), h2 j]
      by_cases a : j = 8 + k
      · rw [if_pos a, if_neg (by omega), if_pos (by omega)]
      · rw [if_neg a]
        by_cases b : j = k
        · rw [if_pos b, if_pos (by omega)]
        · rw [if_neg b]
          by_cases c : j < k
          · rw [if_pos c, if_pos (by omega)]
          · rw [if_neg c]
            by_cases e : 8 ≤ j ∧ j < 8 + k
            · rw [if_pos e, if_neg (by omega), if_pos (by omega)]
            · rw [if_neg e, if_neg (by omega), if_neg (by omega)]
theorem l_an35 : ∀ (d k : Nat) (J : II), k + d = 29 → FR [508] I J → (∀ j, j < k → J 508 j = 0) → (∀ K, FR [508] I K → (∀ j, j < 29 → K 508 j = 0) → t_M_beginsAnew_47 E K T Q 0) → t_M_beginsAnew_35 E J T Q (nI k)
  | 0, k, J, hk, fr, h, hq => by
    have e : k = 29 := by omega
    subst e
    unfold t_M_beginsAnew_35
    exact bq_t (by decide) (hq J fr h)
  | d + 1, k, J, hk, fr, h, hq => by
    unfold t_M_beginsAnew_35
    refine bq_f (nI_ge (a := k) (b := 29) (by omega) (by omega)) ⟨gix (by omega) (by omega), ?_⟩
    rw [nI_clamp (by omega), nI_1]
    refine s_M_beginsAnew_35 (l_an35 d (k + 1) _ (by omega) (fr.trans (FR.up (by decide) _ _)) (fun j hj => ?_) hq)
    rw [m_up_at]
    by_cases c : j = k
    · rw [if_pos c]
    · rw [if_neg c]; exact h j (by omega)
/-- the house laid, by the reference -/
def anM (I K : II) (σ : HS) : Prop := (∀ c, c ≠ 46 → c ≠ 50 → c ≠ 84 → c ≠ 508 → ¬ (61 ≤ c ∧ c < 69) → ¬ (77 ≤ c ∧ c < 83) → K c = I c) ∧ (K 50 0 = nI σ.1.1 ∧ K 50 1 = nI σ.1.2.1 ∧ K 50 2 = nI σ.1.2.2) ∧ (∀ f, f < σ.1.1 → K (61 + f) 0 = nI (σ.2.1 f) ∧ K (61 + f) 1 = nI (σ.2.2.1 f)) ∧ (∀ f, f < 8 → K 84 f = nI (σ.2.2.2.1 f)) ∧ (∀ s, s < σ.1.2.1 → K (77 + s) 0 = nI (σ.2.2.2.2.1 s) ∧ K (77 + s) 1 = nI (σ.2.2.2.2.2 s)) ∧ (∀ j, j < 29 → K 508 j = row0 j) ∧ ∀ j, K 46 j = if j = 19 ∨ (33 ≤ j ∧ j ≤ 36) then 0 else I 46 j
theorem qn_anew {σ : HS} (hv : HV σ) (hs : hsM I σ) (hq : ∀ K, anM I K σ → Q (.inl none) K T) : ev E 19 0 [some (.ref 46), none] [] I T Q := by
  have h8 := hv.1
  have h6 := hv.2.1
  refine s_M_beginsAnew_0 ?_
  unfold t_M_beginsAnew_0 t_M_beginsAnew_2
  refine bq_f (by decide) ⟨by decide, by decide, ?_⟩
  refine s_M_beginsAnew_2 ?_
  unfold t_M_beginsAnew_2
  refine bq_f (by decide) ⟨by decide, by decide, ?_⟩
  refine s_M_beginsAnew_2 ?_
  unfold t_M_beginsAnew_2
  refine bq_f (by decide) ⟨by decide, by decide, ?_⟩
  refine s_M_beginsAnew_2 ?_
  unfold t_M_beginsAnew_2
  refine bq_t (by decide) ?_
  have z0 : (0 : Int32).toNatClampNeg = 0 := by decide
  have z1 : (0 + 1 : Int32).toNatClampNeg = 1 := by decide
  have z2 : (0 + 1 + 1 : Int32).toNatClampNeg = 2 := by decide
  rw [z0, z1, z2]
  generalize hJ : m_up (m_up (m_up I 50 0 (I 49 0)) 50 1 ((m_up I 50 0 (I 49 0)) 49 1)) 50 2 ((m_up (m_up I 50 0 (I 49 0)) 50 1 ((m_up I 50 0 (I 49 0)) 49 1)) 49 2) = J
  have fJ : FR [50] I J := by
    rw [← hJ]
    exact ((FR.up (by decide) _ _).trans (FR.up (by decide) _ _)).trans (FR.up (by decide) _ _)
  have e0 : J 50 0 = nI σ.1.1 := by rw [← hJ]; exact hs.1
  have e1 : J 50 1 = nI σ.1.2.1 := by rw [← hJ]; exact hs.2.1
  have e2 : J 50 2 = nI σ.1.2.2 := by rw [← hJ]; exact hs.2.2.1
  rw [e0]
  refine q_lays_60 (by omega) (fun K1 a1 a2 => ?_)
  show ev E 20 0 [some (.ref 69), some (.ref 76), some (.int (K1 50 1)), none, none] [] K1 T _
  rw [a1 50 (by omega), e1]
  refine q_lays_76 (by omega) (fun K2 b1 b2 => ?_)
  refine l_an35 (I := K2) 29 0 K2 (by omega) (FR.refl _ _) (fun j hj => absurd hj (by omega)) (fun K3 f3 r3 => ?_)
  refine l_an47 (I := K3) 8 0 K3 (by omega) (FR.refl _ _) (fun j hj => absurd hj (by omega)) (fun j => by rw [if_neg (by omega), if_neg (by omega)]) (fun K f4 r4 r5 r6 => ?_)
  have kc : ∀ c, c ≠ 46 → c ≠ 84 → c ≠ 508 → K c = K2 c := fun c x y z => by rw [f4 c (by simp; omega), f3 c (by simpa using z)]
  refine hq K ⟨fun c x y z u v v2 => ?_, ⟨?_, ?_, ?_⟩, fun f hf => ?_, fun f hf => ?_, fun s hs' => ?_, fun j hj => ?_, fun j => ?_⟩
  · rw [kc c x z u, b1 c (by omega), a1 c (by omega), fJ c (by simpa using y)]
  · rw [kc 50 (by omega) (by omega) (by omega), b1 50 (by omega), a1 50 (by omega)]; exact e0
  · rw [kc 50 (by omega) (by omega) (by omega), b1 50 (by omega), a1 50 (by omega)]; exact e1
  · rw [kc 50 (by omega) (by omega) (by omega), b1 50 (by omega), a1 50 (by omega)]; exact e2
  · rw [kc (61 + f) (by omega) (by omega) (by omega), b1 (61 + f) (by omega), (a2 f hf).1, (a2 f hf).2, fJ (52 + f) (by simp; omega)]
    exact hs.2.2.2.1 f hf
  · rw [r4 f hf, f3 83 (by decide), b1 83 (by omega), a1 83 (by omega), fJ 83 (by decide)]
    exact hs.2.2.2.2.1 f hf
  · rw [kc (77 + s) (by omega) (by omega) (by omega), (b2 s hs').1, (b2 s hs').2, a1 (70 + s) (by omega), fJ (70 + s) (by simp; omega)]
    exact hs.2.2.2.2.2 s hs'
  · rw [r5 j, r3 j hj]
    unfold row0
    by_cases a : j < 8
    · rw [if_pos a, if_pos a]
    · rw [if_neg a, if_neg a]
      by_cases b : j < 16
      · rw [if_pos (by omega), if_pos b]
      · rw [if_neg (by omega), if_neg b]
  · rw [r6 j, f3 46 (by decide), b1 46 (by omega), a1 46 (by omega), fJ 46 (by decide)]
/-- the house laid, by the class -/
def anC (I J : II) (σ : HS) : Prop := (∀ c, c ≠ 0 → c ≠ 1 → ¬ (3 ≤ c ∧ c ≤ 17) → c ≠ 20 → c ≠ 21 → c ≠ 29 → c ≠ 32 → c ≠ 36 → J c = I c) ∧ (∀ j, J 0 j = if j = 13 then 0 else I 0 j) ∧ J 1 1 = 0 ∧ J 1 6 = -1 ∧ (J 3 5 = nI σ.1.1 ∧ J 3 6 = nI σ.1.2.1 ∧ J 3 7 = nI σ.1.2.2) ∧ (∀ f, f < σ.1.1 → J 4 f = nI (σ.2.1 f) ∧ J 5 f = nI (σ.2.2.1 f) ∧ J 6 f = nI (σ.2.2.2.1 f)) ∧ (∀ s, s < σ.1.2.1 → J 7 s = nI (σ.2.2.2.2.1 s) ∧ J 8 s = nI (σ.2.2.2.2.2 s)) ∧ lawC J 7 cd0 ∧ J 20 2 = 0 ∧ (∀ f, f < 8 → J 21 f = -1) ∧ J 32 3 = 0 ∧ J 32 4 = 0 ∧ J 36 5 = 0 ∧ ∀ j, j < 29 → J 29 j = row0 j
theorem xq_house {t : Nat} (hG : TG T) (ht : t ≤ 600) (h11 : I 1 1 = nI t) (hN : N ≤ t) (hb : ∀ j, j < t → w j < 256 ∧ I 2 j = (nI (w j)).toInt8.toInt32) (h1 : ∀ σ, hsR N w 61 0 0 hs0 = .inr σ → HV σ → ∀ J, anC I J σ → Q (.inl (some (.int (nI σ.1.1)))) J T) (h0 : ∀ k q, hsR N w 61 0 0 hs0 = .inl (k, q) → ∀ K, FR LC I K → fC K N w k q → Q (.inl (some (.int (nI k - 10)))) K T) : ev E 25 0 [some (.ref 0), some (.int (nI N))] [] I T Q := by
  refine s_X_house_0 ?_
  unfold t_X_house_0
  refine q_needText (m := 600) hG ht (by omega) h11 _ (fun _ => ?_) (fun c => absurd ⟨N, hN, by omega, rfl⟩ c)
  refine q_begin hN ht hb (fun J1 fr1 t1 => ?_)
  refine q_hRead t1 (fun σ eR hv p' K fK tK sK => ?_) (fun k q eR K fK g => ?_)
  · refine q_isFine_t tK (bq_f (by decide) ?_)
    refine s_Search_forget_0 ?_
    unfold t_Search_forget_0
    refine q_copyH (fun J2 f2 a2 b2 c2 => ?_)
    refine q_lawClear (fun J3 f3 a3 => ?_)
    refine q_bkClear (fun J4 f4 a4 b4 => ?_)
    refine s_Shelf_clear_0 ?_
    unfold t_Shelf_clear_0
    refine q_start (fun J5 f5 a5 => ?_)
    have h8 := hv.1
    have h6 := hv.2.1
    have k5 : ∀ c, c ≠ 29 → c ≠ 32 → J5 c = J4 c := fun c x y => by rw [f5 c (by simpa using x), m_up_ne y, m_up_ne y]
    have k3 : ∀ c, c ≠ 29 → c ≠ 32 → c ≠ 20 → c ≠ 21 → J5 c = J3 c := fun c x y z u => by rw [k5 c x y, f4 c (by simp; omega)]
    have k2 : ∀ c, c ≠ 29 → c ≠ 32 → c ≠ 20 → c ≠ 21 → ¬ (15 ≤ c ∧ c ≤ 17) → J5 c = J2 c := fun c x y z u v => by rw [k3 c x y z u, f3 c (by simp; omega)]
    have k1 : ∀ c, c ≠ 29 → c ≠ 32 → c ≠ 20 → c ≠ 21 → ¬ (3 ≤ c ∧ c ≤ 8) → ¬ (15 ≤ c ∧ c ≤ 17) → c ≠ 36 → J5 c = K c := fun c x y z u v v2 v3 => by rw [k2 c x y z u v2, f2 c (by simp; omega), m_up_ne v3]
    have e9 : (m_up K 36 5 0) 9 = K 9 := m_up_ne (by decide)
    have d3 : J5 3 5 = nI σ.1.1 := by rw [k2 3 (by omega) (by omega) (by omega) (by omega) (by omega), a2.1, e9]; exact sK.1
    show Q (.inl (some (.int (J5 3 5)))) (m_up J5 0 13 0) T
    rw [d3]
    refine h1 σ eR hv _ ⟨fun c x y z u v a b d => ?_, fun j => ?_, ?_, ?_, ⟨d3, ?_, ?_⟩, fun f hf => ?_, fun s hs => ?_, ⟨?_, fun k hk => ?_⟩, ?_, fun f hf => ?_, ?_, ?_, ?_, fun j hj => ?_⟩
    · rw [m_up_ne x, k1 c a b u v (by omega) (by omega) d, fK c (by simp; omega), fr1 c (by simpa using y)]
    · rw [m_up_at, k1 0 (by omega) (by omega) (by omega) (by omega) (by omega) (by omega) (by omega), fK 0 (by decide), fr1 0 (by decide)]
    · rw [m_up_ne (by omega), k1 1 (by omega) (by omega) (by omega) (by omega) (by omega) (by omega) (by omega)]; exact tK.1.2.1
    · rw [m_up_ne (by omega), k1 1 (by omega) (by omega) (by omega) (by omega) (by omega) (by omega) (by omega)]; exact tK.2.2.2.2
    · rw [m_up_ne (by omega), k2 3 (by omega) (by omega) (by omega) (by omega) (by omega), a2.2.1, e9]; exact sK.2.1
    · rw [m_up_ne (by omega), k2 3 (by omega) (by omega) (by omega) (by omega) (by omega), a2.2.2, e9]; exact sK.2.2.1
    · rw [m_up_ne (by omega), k2 4 (by omega) (by omega) (by omega) (by omega) (by omega), m_up_ne (by omega), k2 5 (by omega) (by omega) (by omega) (by omega) (by omega), m_up_ne (by omega), k2 6 (by omega) (by omega) (by omega) (by omega) (by omega), (b2 f (by omega)).1, (b2 f (by omega)).2.1, (b2 f (by omega)).2.2]
      exact sK.2.2.2.1 f hf
    · rw [m_up_ne (by omega), k2 7 (by omega) (by omega) (by omega) (by omega) (by omega), m_up_ne (by omega), k2 8 (by omega) (by omega) (by omega) (by omega) (by omega), (c2 s (by omega)).1, (c2 s (by omega)).2]
      exact sK.2.2.2.2 s hs
    · rw [m_up_ne (by omega), k3 15 (by omega) (by omega) (by omega) (by omega)]; exact a3.1
    · rw [m_up_ne (by omega), k3 16 (by omega) (by omega) (by omega) (by omega)]; exact a3.2 k hk
    · rw [m_up_ne (by omega), k5 20 (by omega) (by omega)]; exact a4
    · rw [m_up_ne (by omega), k5 21 (by omega) (by omega)]; exact b4 f hf
    · rw [m_up_ne (by omega), f5 32 (by decide)]; rfl
    · rw [m_up_ne (by omega), f5 32 (by decide)]; rfl
    · rw [m_up_ne (by omega), k2 36 (by omega) (by omega) (by omega) (by omega) (by omega), f2 36 (by decide)]; rfl
    · rw [m_up_ne (by omega)]; exact a5 j hj
  · refine q_isFine_f g (bq_t rfl ?_)
    show Q (.inl (some (.int (K 1 5 - 10)))) K T
    rw [g.2.2.1]
    exact h0 k q eR K ((LC1 fr1).trans fK) g
theorem mq_house {t : Nat} (ht : t ≤ 600) (h461 : I 46 1 = nI t) (hN : N ≤ t) (hb : ∀ j, j < t → w j < 256 ∧ I 47 j = nI (w j)) (h1 : ∀ σ, hsR N w 61 0 0 hs0 = .inr σ → HV σ → ∀ J K, (∀ c, c ≠ 46 → c ≠ 49 → c ≠ 83 → ¬ (52 ≤ c ∧ c < 60) → ¬ (70 ≤ c ∧ c < 76) → J c = I c) → J 46 0 = 0 → J 46 1 = 0 → J 46 3 = -1 → (∀ j, 9 ≤ j → J 46 j = I 46 j) → anM J K σ → Q (.inl (some (.int (nI σ.1.1)))) K T) (h0 : ∀ k q, hsR N w 61 0 0 hs0 = .inl (k, q) → ∀ K, (∀ c, c ≠ 46 → c ≠ 49 → c ≠ 83 → ¬ (52 ≤ c ∧ c < 60) → ¬ (70 ≤ c ∧ c < 76) → K c = I c) → (∀ j, 9 ≤ j → K 46 j = I 46 j) → K 46 0 = 0 → K 46 1 = 0 → K 46 3 = nI q → Q (.inl (some (.int (nI k - 10)))) K T) : ev E 56 0 [some (.ref 46), some (.int (nI N))] [] I T Q := by
  refine s_M_house_0 ?_
  unfold t_M_house_0
  show ev E 57 0 [some (.int (nI N)), some (.int 0), some (.int (I 46 1))] [] _ T _
  rw [h461]
  refine q_in _ _ _ ?_
  rw [wI_n hN (by omega)]
  refine bq_f (by decide) ?_
  unfold t_M_house_13
  refine qm_bad0 rfl _ _ (bq_t rfl ?_)
  refine qn_starts hN ht hb (fun J frJ o46 tJ j7 _ => ?_)
  refine qn_tells (fun J2 fr2 s2 => ?_)
  have eC : ∀ c, c ≠ 46 → c ≠ 49 → c ≠ 83 → J2 c = I c := fun c hc x y => by rw [fr2 c (by simp; omega), frJ c (by simpa using hc), m_up_ne hc]
  have e46 : J2 46 = J 46 := fr2 46 (by decide)
  have t2 : tM J2 N w (bl N w 0) := by
    unfold tM mB at tJ ⊢
    rw [e46, fr2 47 (by decide)]
    exact tJ
  refine l_mhr (I := J2) 61 0 0 hs0 J2 rfl (by omega) HV_z t2 s2 (by rw [e46]; exact j7) ⟨fun _ _ _ _ _ _ => rfl, fun _ _ _ _ _ => rfl⟩ (fun σ eR hv p' K fK tK sK => ?_) (fun k q eR K fK g => ?_) (by omega)
  · unfold t_M_house_37
    refine bq_t tK.2.2.2.1 ?_
    refine qn_anew hv (sK.of hv (fun c a b => m_up_ne (by omega))) (fun K2 a => ?_)
    show Q (.inl (some (.int (K2 50 0)))) K2 T
    rw [a.2.1.1]
    refine h1 σ eR hv _ K2 (fun c x y z u v => ?_) ?_ ?_ rfl (fun j hj => ?_) a
    · rw [m_up_ne x, fK.1 c x y z u v, eC c x y z]
    · rw [m_up_at, if_neg (by omega), fK.2 0 (by omega) (by omega) (by omega) (by omega), e46, o46 0 (by omega)]; rfl
    · rw [m_up_at, if_neg (by omega)]; exact tK.1.2.1
    · rw [m_up_at, if_neg (by omega), fK.2 j (by omega) (by omega) (by omega) (by omega), e46, o46 j (by omega), m_up_at, if_neg (by omega)]
  · unfold t_M_house_37
    refine bq_f (fM_ne g) (qn_ends ?_)
    show Q (.inl (some (.int (K 46 5 - 10)))) (m_up K 46 3 (K 46 6)) T
    rw [g.2.1, g.2.2.2.1]
    refine h0 k q eR _ (fun c x y z u v => ?_) (fun j hj => ?_) ?_ ?_ rfl
    · rw [m_up_ne x, fK.1 c x y z u v, eC c x y z]
    · rw [m_up_at, if_neg (by omega), fK.2 j (by omega) (by omega) (by omega) (by omega), e46, o46 j (by omega), m_up_at, if_neg (by omega)]
    · rw [m_up_at, if_neg (by omega), fK.2 0 (by omega) (by omega) (by omega) (by omega), e46, o46 0 (by omega)]; rfl
    · rw [m_up_at, if_neg (by omega)]; exact g.1.2.1
theorem mq_house_b {t : Nat} {x : Int32} (ht : t ≤ 600) (h461 : I 46 1 = nI t) (c : ¬ ∃ n, n ≤ t ∧ n ≤ 600 ∧ x = nI n) (hq : ∀ v J, ro (m_up I 48 1 (I 48 1 + 1)) J → J 46 0 = 1 → Q (.inl (some (.int v))) J T) : ev E 56 0 [some (.ref 46), some (.int x)] [] I T Q := by
  refine s_M_house_0 ?_
  unfold t_M_house_0
  show ev E 57 0 [some (.int x), some (.int 0), some (.int (I 46 1))] [] _ T _
  rw [h461]
  refine q_in _ _ _ ?_
  have d : ¬ okW x 0 (nI t) := fun d => by
    obtain ⟨j, h2, rfl⟩ := okW_nat (by omega) d
    exact c ⟨j, h2, by omega, rfl⟩
  rw [wI_f d]
  refine bq_t rfl ?_
  unfold t_M_house_13
  refine qm_bad1 (j := 1) rfl (by decide) (by decide) ?_
  exact bq_f (by decide) (hq _ _ (ro_bad I _ _) rfl)
theorem o_house : op_ok Inv E t_W_main_82 := by
  intro I T Q i m hI hT hm hi hL hn
  have hG := TI_g hT hm
  obtain ⟨F, S, n, cd, hA⟩ := hI
  unfold t_W_main_82
  generalize E.2.2 (nI i + 1).toNatClampNeg = a
  refine ⟨gsc 1 hi hL (by decide), ?_⟩
  refine s_W_house_0 ?_
  unfold t_W_house_0 t_W_house_9
  obtain ⟨t, w, ht, h11, h461, hb⟩ := Tx_w hA.2.2.2.2.1
  by_cases c : ∃ n, n ≤ t ∧ n ≤ 600 ∧ a = nI n
  · obtain ⟨N, hN, -, rfl⟩ := c
    refine xq_house hG ht h11 hN (fun j hj => ⟨(hb j hj).1, (hb j hj).2.2⟩) (fun σ eR hv J hJ => ?_) (fun k q eR K fK g => ?_)
    · obtain ⟨x1, x2, x3, x4, x5, x6, x7, x8, x9, x10, x11, x12, x13, x14⟩ := hJ
      have h8 := hv.1
      have h6 := hv.2.1
      have j46 : J 46 = I 46 := x1 46 (by omega) (by omega) (by omega) (by omega) (by omega) (by omega) (by omega) (by omega)
      have j47 : J 47 = I 47 := x1 47 (by omega) (by omega) (by omega) (by omega) (by omega) (by omega) (by omega) (by omega)
      refine ⟨gsc 1 hi hL (by decide), ?_⟩
      refine mq_house (w := w) ht (by rw [j46]; exact h461) hN (fun j hj => by rw [j47]; exact ⟨(hb j hj).1, (hb j hj).2.1⟩) (fun σ' eR' _ J2 K a1 a2 a3 a4 a5 a6 => ?_) (fun k q eR' => ?_)
      · rw [eR] at eR'
        have es : σ = σ' := by injection eR'
        subst es
        obtain ⟨b1, b2, b3, b4, b5, b6, b7⟩ := a6
        have kc : ∀ c, c ≠ 46 → c ≠ 49 → ¬ (50 ≤ c ∧ c < 85) → c ≠ 508 → K c = J c := fun c u v z y => by
          rw [b1 c u (by omega) (by omega) y (by omega) (by omega), a1 c u v (by omega) (by omega) (by omega)]
        have r0 : ∀ j, j < 29 → K 29 j = row0 j := fun j hj => by rw [kc 29 (by omega) (by omega) (by omega) (by omega)]; exact x14 j hj
        obtain ⟨hC, hB, hSh, hIm, -, ⟨c1, c2, c3⟩, hSr⟩ := hA
        refine fin_ok (by rw [b7 0, if_neg (by omega)]; exact a2) (fun _ => rfl) (hn K _ ⟨σ.1.1, σ.1.2.1, 7, cd0, ⟨⟨?_, h8, ?_, h6⟩, ⟨b2.1, h8, b2.2.1, h6⟩, ⟨⟨dep0, lawW0⟩, ⟨?_, fun k hk => ?_⟩, Or.inr ⟨by rw [b7 19, if_pos (by omega)], rfl, rfl⟩⟩, fun f hf => ?_, fun s hs => ?_, ?_, ⟨fun j hj => ?_, ?_, ?_, ?_⟩, ⟨fun f hf => ?_, fun f g hf hg hne hx => ?_, fun f hf => ⟨5, by omega, ?_⟩, fun f hf => ⟨0, by omega, ?_⟩, 0, by omega, ?_⟩⟩, ⟨0, by omega, ?_, by rw [b7 33, if_pos (by omega)]; rfl, fun j hj => absurd hj (by omega), fun f hf => Or.inl ?_⟩, ⟨0, by omega, ?_, by rw [b7 34, if_pos (by omega)]; rfl, fun k hk => absurd hk (by omega)⟩, ⟨0, by omega, ?_, by rw [b7 36, if_pos (by omega)]; rfl, fun k hk => absurd hk (by omega)⟩, ⟨?_, 0, by omega, ?_, ?_, fun j hj => absurd hj (by omega)⟩, ⟨?_, ?_, ?_⟩, Sr.zero ?_⟩ (TI_s hT))
        · rw [kc 3 (by omega) (by omega) (by omega) (by omega)]; exact x5.1
        · rw [kc 3 (by omega) (by omega) (by omega) (by omega)]; exact x5.2.1
        · rw [kc 15 (by omega) (by omega) (by omega) (by omega)]; exact x8.1
        · rw [kc 16 (by omega) (by omega) (by omega) (by omega)]; exact x8.2 k hk
        · rw [(b3 f hf).1, (b3 f hf).2, b4 f (by omega), kc 4 (by omega) (by omega) (by omega) (by omega), kc 5 (by omega) (by omega) (by omega) (by omega), kc 6 (by omega) (by omega) (by omega) (by omega), (x6 f hf).1, (x6 f hf).2.1, (x6 f hf).2.2]
          exact ⟨rfl, rfl, rfl, ⟨_, (hv.2.2.2.1 f hf).1, rfl⟩, ⟨_, (hv.2.2.2.1 f hf).2, rfl⟩, _, (hv.2.2.2.2.1 f).1, rfl⟩
        · rw [(b5 s hs).1, (b5 s hs).2, kc 7 (by omega) (by omega) (by omega) (by omega), kc 8 (by omega) (by omega) (by omega) (by omega), (x7 s hs).1, (x7 s hs).2]
          exact ⟨rfl, rfl, ⟨_, (hv.2.2.2.2.2 s hs).1.1, (hv.2.2.2.2.2 s hs).1.2, rfl⟩, _, (hv.2.2.2.2.2 s hs).2, rfl⟩
        · rw [b2.2.2, kc 3 (by omega) (by omega) (by omega) (by omega)]; exact x5.2.2.symm
        · rw [b6 j (by omega), r0 j (by omega)]
        · rw [b6 26 (by omega), r0 28 (by omega)]; rfl
        · rw [b6 27 (by omega), r0 27 (by omega)]
        · rw [b6 28 (by omega), r0 26 (by omega)]; rfl
        · rw [r0 f (by omega)]; exact Or.inl (if_pos (by omega))
        · rw [r0 f (by omega)] at hx; exact absurd (if_pos (by omega)) hx
        · rw [r0 (8 + f) (by omega)]; unfold row0; rw [if_neg (by omega), if_pos (by omega)]; rfl
        · rw [r0 (16 + f) (by omega)]; unfold row0; rw [if_neg (by omega), if_neg (by omega)]; rfl
        · rw [r0 25 (by omega)]; rfl
        · rw [kc 20 (by omega) (by omega) (by omega) (by omega)]; exact x9
        · rw [kc 21 (by omega) (by omega) (by omega) (by omega)]; exact x10 f hf
        · rw [kc 32 (by omega) (by omega) (by omega) (by omega)]; exact x11
        · rw [kc 32 (by omega) (by omega) (by omega) (by omega)]; exact x12
        · rw [kc 1 (by omega) (by omega) (by omega) (by omega), x4, b7 3, if_neg (by omega), a4]
        · rw [kc 1 (by omega) (by omega) (by omega) (by omega)]; exact x3
        · rw [b7 1, if_neg (by omega)]; exact a3
        · rw [kc 0 (by omega) (by omega) (by omega) (by omega), x2 13, if_pos rfl, b7 35, if_pos (by omega)]
        · rw [kc 0 (by omega) (by omega) (by omega) (by omega), x2 14, if_neg (by omega), kc 48 (by omega) (by omega) (by omega) (by omega), x1 48 (by omega) (by omega) (by omega) (by omega) (by omega) (by omega) (by omega) (by omega)]; exact c2
        · rw [kc 0 (by omega) (by omega) (by omega) (by omega), x2 15, if_neg (by omega), kc 48 (by omega) (by omega) (by omega) (by omega), x1 48 (by omega) (by omega) (by omega) (by omega) (by omega) (by omega) (by omega) (by omega)]; exact c3
        · rw [kc 36 (by omega) (by omega) (by omega) (by omega)]; exact x13
      · rw [eR] at eR'; cases eR'
    · have j46 : K 46 = I 46 := fK 46 (by decide)
      refine ⟨gsc 1 hi hL (by decide), ?_⟩
      refine mq_house (w := w) ht (by rw [j46]; exact h461) hN (fun j hj => by rw [fK 47 (by decide)]; exact ⟨(hb j hj).1, (hb j hj).2.1⟩) (fun σ' eR' => ?_) (fun k' q' eR' J2 a1 a2 a3 a4 a5 => ?_)
      · rw [eR] at eR'; cases eR'
      · rw [eR] at eR'
        cases eR'
        refine fin_ok a3 (fun _ => rfl) (hn J2 _ ⟨F, S, n, cd, Inv_text hA (fun c hc => ?_) (fun j hj => ?_) ?_ ?_ a4⟩ (TI_s hT))
        · unfold keepC coreC bookC shelC imagC at hc
          rw [a1 c (by omega) (by omega) (by omega) (by omega) (by omega)]
          exact fK c (by simp; omega)
        · rw [a2 j (by omega), j46]
        · rw [a1 1 (by omega) (by omega) (by omega) (by omega) (by omega), a5]; exact g.2.2.2.2
        · rw [a1 1 (by omega) (by omega) (by omega) (by omega) (by omega)]; exact g.1.2.1
  · refine s_X_house_0 ?_
    unfold t_X_house_0
    refine q_needText (m := 600) hG ht (by omega) h11 a (fun q => absurd q c) (fun _ => ?_)
    refine ⟨rfl, ⟨gsc 1 hi hL (by decide), ?_⟩⟩
    refine mq_house_b (t := t) ht h461 c (fun v J hJ h0 => fin_ok h0 (fun q => absurd q (by decide)) (hn J _ (Inv_thr (x := 1) (by decide) ⟨F, S, n, cd, hA⟩ rfl (ro.refl _) hJ) (TI_x hT)))
end ANEW
