/-! ===== contracts: what changes a row ===== -/
def t999 (x : Int32) : Int32 := if 0 < (if x < 999 then x else 999) then (if x < 999 then x else 999) else 0
def mx0 (x : Int32) : Int32 := if 0 ≤ x then x else 0
theorem t999_eq {x : Int32} (h : x ≤ 999) : t999 x = mx0 x := by
  have e0 : (0 : Int32).toInt = 0 := rfl
  have e9 : (999 : Int32).toInt = 999 := rfl
  unfold t999 mx0
  by_cases h1 : x < 999
  · by_cases h2 : 0 < x
    · have h3 : 0 ≤ x := by rw [fa_le, e0]; rw [fa_lt, e0] at h2; omega
      simp only [if_pos h1, if_pos h2, if_pos h3]
    · simp only [if_pos h1, if_neg h2]
      by_cases h3 : 0 ≤ x
      · simp only [if_pos h3]
        rw [fa_eq]
        rw [fa_lt, e0] at h2
        rw [fa_le, e0] at h3
        omega
      · simp only [if_neg h3]
  · have e : x = 999 := by
      rw [fa_eq]
      rw [fa_lt] at h1
      rw [fa_le] at h
      omega
    subst e
    decide
def easeC (r calm : Nat → Int32) (f : Nat) : Int32 := if r f = -1 then 3 + calm f else 1
/-- a day of rest, by the class and by the reference -/
def rsC (calm : Nat → Int32) (f : Nat) (r : Nat → Int32) : Nat → Int32 := upd r (16 + f) (t999 (r (16 + f) - easeC r calm f))
def rsM (calm : Nat → Int32) (f : Nat) (r : Nat → Int32) : Nat → Int32 := upd r (16 + f) (mx0 (r (16 + f) - easeC r calm f))
def restC (calm : Nat → Int32) (F : Nat) (r : Nat → Int32) : Nat → Int32 := upd (rep (rsC calm) F 0 r) 24 ((rep (rsC calm) F 0 r) 24 + 1)
def restM (calm : Nat → Int32) (F : Nat) (r : Nat → Int32) : Nat → Int32 := upd (rep (rsM calm) F 0 r) 24 ((rep (rsM calm) F 0 r) 24 + 1)
section MUT
variable {E : MEnv} {I : II} {T : TT} {Q : QQ} {F S n : Nat} {cd : Nat → Nat × Int32}
theorem up_at (I : II) (c j : Nat) (v : Int32) : m_up I c j v = m_row I c (upd (I c) j v) := by
  have := up_row I c j (I c) v
  rw [row_self] at this
  exact this
theorem p_easeOf_28 (h : hN I F S) {f : Nat} (hf : f < F) (hq : Q (.inl (some (.int (easeC (I 29) (I 5) f)))) I T) : ev E 143 0 [some (.ref 28), some (.int (nI f))] [] I T Q := by
  have h8 := h.2.1
  refine s_Coach_easeOf_28_0 ?_
  unfold t_Coach_easeOf_28_0 t_Coach_easeOf_28_12
  refine p_hasPlace_28 h (by omega) ?_
  unfold easeC at hq
  by_cases q : I 29 f = -1
  · rw [if_neg (fun z => z.2 q)]
    rw [if_pos q] at hq
    refine ⟨fun _ => ?_, fun q2 => absurd rfl q2⟩
    refine p_calmOf h (by omega) ?_
    rw [if_pos hf]
    exact hq
  · rw [if_pos ⟨hf, q⟩]
    rw [if_neg q] at hq
    exact ⟨fun q2 => absurd q2 (by decide), fun _ => hq⟩
theorem p_setTired_28 (h : hN I F S) {f : Nat} (hf : f < F) (v : Int32) (hq : Q (.inl none) (m_row I 29 (upd (I 29) (16 + f) (t999 v))) T) : ev E 139 0 [some (.ref 28), some (.int (nI f)), some (.int v)] [] I T Q := by
  have h8 := h.2.1
  refine s_Coach_setTired_28_0 ?_
  unfold t_Coach_setTired_28_0 t_Coach_setTired_28_16
  refine p_isFeeling h (by omega) ?_
  rw [if_pos hf]
  refine ⟨fun q => absurd q (by decide), fun _ => ?_⟩
  rw [z16]
  refine ⟨gix (by omega) (by omega), ?_⟩
  rw [nI_clamp (by omega), up_at]
  exact hq
theorem p_setTight_28 (h : hN I F S) {f : Nat} (hf : f < F) (v : Int32) (hq : Q (.inl none) (m_row I 29 (upd (I 29) (8 + f) (if 0 < v then v else 0))) T) : ev E 119 0 [some (.ref 28), some (.int (nI f)), some (.int v)] [] I T Q := by
  have h8 := h.2.1
  refine s_Coach_setTight_28_0 ?_
  unfold t_Coach_setTight_28_0 t_Coach_setTight_28_14
  refine p_isFeeling h (by omega) ?_
  rw [if_pos hf]
  refine ⟨fun q => absurd q (by decide), fun _ => ?_⟩
  rw [z8]
  refine ⟨gix (by omega) (by omega), ?_⟩
  rw [nI_clamp (by omega), up_at]
  exact hq
theorem p_setPlace_28 (h : hN I F S) {f : Nat} (hf : f < F) (v : Int32) (hq : Q (.inl none) (m_row I 29 (upd (I 29) f v)) T) : ev E 117 0 [some (.ref 28), some (.int (nI f)), some (.int v)] [] I T Q := by
  have h8 := h.2.1
  refine s_Coach_setPlace_28_0 ?_
  unfold t_Coach_setPlace_28_0 t_Coach_setPlace_28_12
  refine p_isFeeling h (by omega) ?_
  rw [if_pos hf]
  refine ⟨fun q => absurd q (by decide), fun _ => ?_⟩
  rw [z0]
  refine ⟨gix (by omega) (by omega), ?_⟩
  rw [nI_clamp (by omega), up_at]
  exact hq
theorem l_restOneDay_28 (h : hN I F S) : ∀ (d f : Nat) (r : Nat → Int32), f + d = F → Q (.inl none) (m_row I 29 (upd (rep (rsC (I 5)) d f r) 24 ((rep (rsC (I 5)) d f r) 24 + 1))) T → t_Coach_restOneDay_28_2 E (m_row I 29 r) T Q (nI f)
  | 0, f, r, hf, hq => by
    have h2 : hN (m_row I 29 r) F S := h
    have := h.2.1
    unfold t_Coach_restOneDay_28_2
    rw [h2.1, up_row]
    exact ⟨fun _ => hq, fun q => absurd (nI_le (by omega) (by omega)) q⟩
  | d + 1, f, r, hf, hq => by
    have h2 : hN (m_row I 29 r) F S := h
    have h8 := h.2.1
    unfold t_Coach_restOneDay_28_2
    rw [h2.1]
    refine ⟨fun q => absurd q (nI_ge (by omega) (by omega)), fun _ => ?_⟩
    refine p_tiredOf_28 h2 (by omega) ?_
    rw [if_pos (by omega)]
    refine p_easeOf_28 h2 (by omega) ?_
    refine p_setTired_28 h2 (by omega) _ ?_
    rw [rep] at hq
    rw [row_row]
    rw [nI_1]
    exact s_Coach_restOneDay_28_2 (l_restOneDay_28 h d (f + 1) _ (by omega) hq)
theorem p_restOneDay_28 (h : hN I F S) (hq : Q (.inl none) (m_row I 29 (restC (I 5) F (I 29))) T) : ev E 142 0 [some (.ref 28), none] [] I T Q := by
  refine s_Coach_restOneDay_28_0 ?_
  unfold t_Coach_restOneDay_28_0
  have := l_restOneDay_28 (E := E) (Q := Q) (T := T) h F 0 (I 29) (by omega) hq
  rw [row_self] at this
  exact this
theorem p_easeOf_30 (h : hN I F S) {f : Nat} (hf : f < F) (hq : Q (.inl (some (.int (easeC (I 31) (I 5) f)))) I T) : ev E 143 0 [some (.ref 30), some (.int (nI f))] [] I T Q := by
  have h8 := h.2.1
  refine s_Coach_easeOf_30_0 ?_
  unfold t_Coach_easeOf_30_0 t_Coach_easeOf_30_12
  refine p_hasPlace_30 h (by omega) ?_
  unfold easeC at hq
  by_cases q : I 31 f = -1
  · rw [if_neg (fun z => z.2 q)]
    rw [if_pos q] at hq
    refine ⟨fun _ => ?_, fun q2 => absurd rfl q2⟩
    refine p_calmOf h (by omega) ?_
    rw [if_pos hf]
    exact hq
  · rw [if_pos ⟨hf, q⟩]
    rw [if_neg q] at hq
    exact ⟨fun q2 => absurd q2 (by decide), fun _ => hq⟩
theorem p_setTired_30 (h : hN I F S) {f : Nat} (hf : f < F) (v : Int32) (hq : Q (.inl none) (m_row I 31 (upd (I 31) (16 + f) (t999 v))) T) : ev E 139 0 [some (.ref 30), some (.int (nI f)), some (.int v)] [] I T Q := by
  have h8 := h.2.1
  refine s_Coach_setTired_30_0 ?_
  unfold t_Coach_setTired_30_0 t_Coach_setTired_30_16
  refine p_isFeeling h (by omega) ?_
  rw [if_pos hf]
  refine ⟨fun q => absurd q (by decide), fun _ => ?_⟩
  rw [z16]
  refine ⟨gix (by omega) (by omega), ?_⟩
  rw [nI_clamp (by omega), up_at]
  exact hq
theorem p_setTight_30 (h : hN I F S) {f : Nat} (hf : f < F) (v : Int32) (hq : Q (.inl none) (m_row I 31 (upd (I 31) (8 + f) (if 0 < v then v else 0))) T) : ev E 119 0 [some (.ref 30), some (.int (nI f)), some (.int v)] [] I T Q := by
  have h8 := h.2.1
  refine s_Coach_setTight_30_0 ?_
  unfold t_Coach_setTight_30_0 t_Coach_setTight_30_14
  refine p_isFeeling h (by omega) ?_
  rw [if_pos hf]
  refine ⟨fun q => absurd q (by decide), fun _ => ?_⟩
  rw [z8]
  refine ⟨gix (by omega) (by omega), ?_⟩
  rw [nI_clamp (by omega), up_at]
  exact hq
theorem p_setPlace_30 (h : hN I F S) {f : Nat} (hf : f < F) (v : Int32) (hq : Q (.inl none) (m_row I 31 (upd (I 31) f v)) T) : ev E 117 0 [some (.ref 30), some (.int (nI f)), some (.int v)] [] I T Q := by
  have h8 := h.2.1
  refine s_Coach_setPlace_30_0 ?_
  unfold t_Coach_setPlace_30_0 t_Coach_setPlace_30_12
  refine p_isFeeling h (by omega) ?_
  rw [if_pos hf]
  refine ⟨fun q => absurd q (by decide), fun _ => ?_⟩
  rw [z0]
  refine ⟨gix (by omega) (by omega), ?_⟩
  rw [nI_clamp (by omega), up_at]
  exact hq
theorem l_restOneDay_30 (h : hN I F S) : ∀ (d f : Nat) (r : Nat → Int32), f + d = F → Q (.inl none) (m_row I 31 (upd (rep (rsC (I 5)) d f r) 24 ((rep (rsC (I 5)) d f r) 24 + 1))) T → t_Coach_restOneDay_30_2 E (m_row I 31 r) T Q (nI f)
  | 0, f, r, hf, hq => by
    have h2 : hN (m_row I 31 r) F S := h
    have := h.2.1
    unfold t_Coach_restOneDay_30_2
    rw [h2.1, up_row]
    exact ⟨fun _ => hq, fun q => absurd (nI_le (by omega) (by omega)) q⟩
  | d + 1, f, r, hf, hq => by
    have h2 : hN (m_row I 31 r) F S := h
    have h8 := h.2.1
    unfold t_Coach_restOneDay_30_2
    rw [h2.1]
    refine ⟨fun q => absurd q (nI_ge (by omega) (by omega)), fun _ => ?_⟩
    refine p_tiredOf_30 h2 (by omega) ?_
    rw [if_pos (by omega)]
    refine p_easeOf_30 h2 (by omega) ?_
    refine p_setTired_30 h2 (by omega) _ ?_
    rw [rep] at hq
    rw [row_row]
    rw [nI_1]
    exact s_Coach_restOneDay_30_2 (l_restOneDay_30 h d (f + 1) _ (by omega) hq)
theorem p_restOneDay_30 (h : hN I F S) (hq : Q (.inl none) (m_row I 31 (restC (I 5) F (I 31))) T) : ev E 142 0 [some (.ref 30), none] [] I T Q := by
  refine s_Coach_restOneDay_30_0 ?_
  unfold t_Coach_restOneDay_30_0
  have := l_restOneDay_30 (E := E) (Q := Q) (T := T) h F 0 (I 31) (by omega) hq
  rw [row_self] at this
  exact this
theorem l_rests_508 (h : mN I F S) : ∀ (d f : Nat) (r : Nat → Int32), f + d = F → Q (.inl none) (m_row I 508 (upd (rep (rsM (fun f => I (61 + f) 1)) d f r) 24 ((rep (rsM (fun f => I (61 + f) 1)) d f r) 24 + 1))) T → t_M_rests_508_2 E (m_row I 508 r) T Q (nI f)
  | 0, f, r, hf, hq => by
    have h2 : mN (m_row I 508 r) F S := h
    have := h.2.1
    unfold t_M_rests_508_2
    rw [h2.1, up_row]
    exact ⟨fun _ => hq, fun q => absurd (nI_le (by omega) (by omega)) q⟩
  | d + 1, f, r, hf, hq => by
    have h2 : mN (m_row I 508 r) F S := h
    have h8 := h.2.1
    have e1 : (m_row I 508 r) (61 + f) = I (61 + f) := m_row_ne (by omega)
    have e2 : ∀ j, (m_row I 508 r) 508 j = r j := fun _ => rfl
    unfold t_M_rests_508_2 t_M_rests_508_35
    rw [h2.1]
    refine ⟨fun q => absurd q (nI_ge (by omega) (by omega)), fun _ => ?_⟩
    rw [z0, z16]
    refine ⟨gix (by omega) (by omega), gix (by omega) (by omega), ?_⟩
    rw [nI_clamp (show f < 2 ^ 31 by omega), nI_clamp (show 16 + f < 2 ^ 31 by omega), e1, e2, e2]
    rw [rep] at hq
    have next : ∀ e : Int32, easeC r (fun f => I (61 + f) 1) f = e → ev E 163 0 [some (.int 0), some (.int (r (16 + f) - e))] [] (m_row I 508 r) T (KI (fun v1 I1 T1 => (¬ nI (16 + f) < 0 ∧ (16 + f) < 29) ∧ (ev E 168 2 [some (.ref 46), some (.ref 508), some (.int (nI f + 1))] [] (m_up I1 508 (16 + f) v1) T1 Q)) (fun _ _ _ => False)) := by
      intro e he
      refine p_more _ _ ?_
      refine ⟨⟨nI_pos (n := 16 + f) (by omega), (by omega : 16 + f < 29)⟩, ?_⟩
      rw [up_row, nI_1]
      refine s_M_rests_508_2 (l_rests_508 h d (f + 1) _ (by omega) ?_)
      unfold rsM at hq
      rw [he] at hq
      exact hq
    refine ⟨fun q => ⟨⟨nI_pos (n := f) (by omega), (by omega : f < 8)⟩, next _ (by unfold easeC; rw [if_pos q])⟩, fun q => next _ (by unfold easeC; rw [if_neg q])⟩
theorem p_rests_508 (h : mN I F S) (hq : Q (.inl none) (m_row I 508 (restM (fun f => I (61 + f) 1) F (I 508))) T) : ev E 168 0 [some (.ref 46), some (.ref 508), none] [] I T Q := by
  refine s_M_rests_508_0 ?_
  unfold t_M_rests_508_0
  have := l_rests_508 (E := E) (Q := Q) (T := T) h F 0 (I 508) (by omega) hq
  rw [row_self] at this
  exact this
theorem l_rests_509 (h : mN I F S) : ∀ (d f : Nat) (r : Nat → Int32), f + d = F → Q (.inl none) (m_row I 509 (upd (rep (rsM (fun f => I (61 + f) 1)) d f r) 24 ((rep (rsM (fun f => I (61 + f) 1)) d f r) 24 + 1))) T → t_M_rests_509_2 E (m_row I 509 r) T Q (nI f)
  | 0, f, r, hf, hq => by
    have h2 : mN (m_row I 509 r) F S := h
    have := h.2.1
    unfold t_M_rests_509_2
    rw [h2.1, up_row]
    exact ⟨fun _ => hq, fun q => absurd (nI_le (by omega) (by omega)) q⟩
  | d + 1, f, r, hf, hq => by
    have h2 : mN (m_row I 509 r) F S := h
    have h8 := h.2.1
    have e1 : (m_row I 509 r) (61 + f) = I (61 + f) := m_row_ne (by omega)
    have e2 : ∀ j, (m_row I 509 r) 509 j = r j := fun _ => rfl
    unfold t_M_rests_509_2 t_M_rests_509_35
    rw [h2.1]
    refine ⟨fun q => absurd q (nI_ge (by omega) (by omega)), fun _ => ?_⟩
    rw [z0, z16]
    refine ⟨gix (by omega) (by omega), gix (by omega) (by omega), ?_⟩
    rw [nI_clamp (show f < 2 ^ 31 by omega), nI_clamp (show 16 + f < 2 ^ 31 by omega), e1, e2, e2]
    rw [rep] at hq
    have next : ∀ e : Int32, easeC r (fun f => I (61 + f) 1) f = e → ev E 163 0 [some (.int 0), some (.int (r (16 + f) - e))] [] (m_row I 509 r) T (KI (fun v1 I1 T1 => (¬ nI (16 + f) < 0 ∧ (16 + f) < 29) ∧ (ev E 168 2 [some (.ref 46), some (.ref 509), some (.int (nI f + 1))] [] (m_up I1 509 (16 + f) v1) T1 Q)) (fun _ _ _ => False)) := by
      intro e he
      refine p_more _ _ ?_
      refine ⟨⟨nI_pos (n := 16 + f) (by omega), (by omega : 16 + f < 29)⟩, ?_⟩
      rw [up_row, nI_1]
      refine s_M_rests_509_2 (l_rests_509 h d (f + 1) _ (by omega) ?_)
      unfold rsM at hq
      rw [he] at hq
      exact hq
    refine ⟨fun q => ⟨⟨nI_pos (n := f) (by omega), (by omega : f < 8)⟩, next _ (by unfold easeC; rw [if_pos q])⟩, fun q => next _ (by unfold easeC; rw [if_neg q])⟩
theorem p_rests_509 (h : mN I F S) (hq : Q (.inl none) (m_row I 509 (restM (fun f => I (61 + f) 1) F (I 509))) T) : ev E 168 0 [some (.ref 46), some (.ref 509), none] [] I T Q := by
  refine s_M_rests_509_0 ?_
  unfold t_M_rests_509_0
  have := l_rests_509 (E := E) (Q := Q) (T := T) h F 0 (I 509) (by omega) hq
  rw [row_self] at this
  exact this
end MUT
