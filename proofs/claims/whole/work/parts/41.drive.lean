/-! ===== contracts: a stage is driven, by the class ===== -/
def p0 (v : Int32) : Int32 := if 0 < v then v else 0
def tireC (more : Int32) (f : Nat) (r : Nat → Int32) : Nat → Int32 := if r f = -1 then r else upd r (16 + f) (t999 (r (16 + f) + more))
def spillC (f : Nat) (r : Nat → Int32) : Nat → Int32 := if r f = -1 then r else if p0 (r (8 + f) - 3) = 0 then upd (upd r (8 + f) (p0 (r (8 + f) - 3))) f (-1) else upd r (8 + f) (p0 (r (8 + f) - 3))
def outN (len turn bears st tilt : Int32) : Nat := if len / 3 + 1 ≤ st then (if tilt + turn ≤ bears then 2 else 1) else 0
theorem outc_N (len turn bears st tilt : Int32) : outc len turn bears st tilt = nI (outN len turn bears st tilt) := by
  unfold outc outN
  split
  · split <;> rfl
  · rfl
theorem outN_lt (len turn bears st tilt : Int32) : outN len turn bears st tilt < 3 := by
  unfold outN
  split
  · split <;> decide
  · decide
def tally (h : Nat) (r : Nat → Int32) : Nat → Int32 := upd r (26 + h) (r (26 + h) + 1)
def slowC (len st : Int32) : Int32 := if st ≤ 0 then 0 else len / st
def thruC (len turn st : Int32) (F : Nat) (r : Nat → Int32) : Nat → Int32 := upd (rep (tireC (slowC len st + 1 + turn / 3)) F 0 r) 25 ((rep (tireC (slowC len st + 1 + turn / 3)) F 0 r) 25 + 1)
/-- the row behind a stage -/
def driveC (len turn bears st tilt : Int32) (F : Nat) (r : Nat → Int32) : Nat → Int32 := tally (outN len turn bears st tilt) (if outN len turn bears st tilt = 0 then rep (tireC 2) F 0 r else if outN len turn bears st tilt = 1 then rep spillC F 0 (rep (tireC 5) F 0 r) else thruC len turn st F r)
section DRV
variable {E : MEnv} {I : II} {T : TT} {Q : QQ} {F S n : Nat} {cd : Nat → Nat × Int32}
theorem p_within (x a b : Int32) (hq : Q (.inl (some (.int (if x < a then 0 else if b < x then 0 else 1)))) I T) : ev E 27 0 [some (.int x), some (.int a), some (.int b)] [] I T Q := by
  refine s_X_within_0 ?_
  unfold t_X_within_0 t_X_within_8 t_X_within_9
  refine ⟨fun q => ?_, fun q => ⟨fun q2 => ?_, fun q2 => ?_⟩⟩
  · rw [if_pos q] at hq; exact ⟨Or.inl rfl, hq⟩
  · rw [if_neg q, if_pos q2] at hq; exact ⟨Or.inl rfl, hq⟩
  · rw [if_neg q, if_neg q2] at hq; exact ⟨Or.inr rfl, hq⟩
theorem p_takeOut_28 (h : hN I F S) {f : Nat} (hf : f < F) (hq : Q (.inl none) (m_row I 29 (upd (I 29) f (-1))) T) : ev E 118 0 [some (.ref 28), some (.int (nI f))] [] I T Q := by
  refine s_Coach_takeOut_28_0 ?_
  unfold t_Coach_takeOut_28_0
  refine p_setPlace_28 h hf _ ?_
  exact hq
theorem l_tireTeam_28 (h : hN I F S) (m : Int32) : ∀ (d f : Nat) (r : Nat → Int32), f + d = F → Q (.inl none) (m_row I 29 (rep (tireC m) d f r)) T → t_Coach_tireTeam_28_2 E (m_row I 29 r) T Q m (nI f)
  | 0, f, r, hf, hq => by
    have h2 : hN (m_row I 29 r) F S := h
    have := h.2.1
    unfold t_Coach_tireTeam_28_2
    rw [h2.1]
    exact ⟨fun _ => hq, fun q => absurd (nI_le (by omega) (by omega)) q⟩
  | d + 1, f, r, hf, hq => by
    have h2 : hN (m_row I 29 r) F S := h
    have h8 := h.2.1
    have e2 : ∀ j, (m_row I 29 r) 29 j = r j := fun _ => rfl
    unfold t_Coach_tireTeam_28_2 t_Coach_tireTeam_28_19
    rw [h2.1]
    refine ⟨fun q => absurd q (nI_ge (by omega) (by omega)), fun _ => ?_⟩
    refine p_hasPlace_28 h2 (by omega) ?_
    rw [e2]
    rw [rep] at hq
    by_cases q : r f = -1
    · rw [if_neg (fun z => z.2 q)]
      have e9 : tireC m f r = r := by unfold tireC; rw [if_pos q]
      rw [e9] at hq
      refine ⟨fun _ => ?_, fun q2 => absurd rfl q2⟩
      rw [nI_1]
      exact s_Coach_tireTeam_28_2 (l_tireTeam_28 h m d (f + 1) r (by omega) hq)
    · rw [if_pos ⟨by omega, q⟩]
      have e9 : tireC m f r = upd r (16 + f) (t999 (r (16 + f) + m)) := by unfold tireC; rw [if_neg q]
      rw [e9] at hq
      refine ⟨fun q2 => absurd q2 (by decide), fun _ => ?_⟩
      refine p_tiredOf_28 h2 (by omega) ?_
      rw [if_pos (by omega)]
      refine p_setTired_28 h2 (by omega) _ ?_
      rw [row_row, nI_1]
      exact s_Coach_tireTeam_28_2 (l_tireTeam_28 h m d (f + 1) _ (by omega) hq)
theorem p_tireTeam_28 (h : hN I F S) (m : Int32) (hq : Q (.inl none) (m_row I 29 (rep (tireC m) F 0 (I 29))) T) : ev E 138 0 [some (.ref 28), some (.int m), none] [] I T Q := by
  refine s_Coach_tireTeam_28_0 ?_
  unfold t_Coach_tireTeam_28_0
  have := l_tireTeam_28 (E := E) (Q := Q) (T := T) h m F 0 (I 29) (by omega) hq
  rw [row_self] at this
  exact this
theorem l_spill_28 (h : hN I F S) : ∀ (d f : Nat) (r : Nat → Int32), f + d = F → Q (.inl none) (m_row I 29 (rep spillC d f r)) T → t_Coach_spill_28_2 E (m_row I 29 r) T Q (nI f)
  | 0, f, r, hf, hq => by
    have h2 : hN (m_row I 29 r) F S := h
    have := h.2.1
    unfold t_Coach_spill_28_2
    rw [h2.1]
    exact ⟨fun _ => hq, fun q => absurd (nI_le (by omega) (by omega)) q⟩
  | d + 1, f, r, hf, hq => by
    have h2 : hN (m_row I 29 r) F S := h
    have h8 := h.2.1
    have e2 : ∀ j, (m_row I 29 r) 29 j = r j := fun _ => rfl
    unfold t_Coach_spill_28_2 t_Coach_spill_28_26
    rw [h2.1]
    refine ⟨fun q => absurd q (nI_ge (by omega) (by omega)), fun _ => ?_⟩
    refine p_hasPlace_28 h2 (by omega) ?_
    rw [e2]
    rw [rep] at hq
    by_cases q : r f = -1
    · rw [if_neg (fun z => z.2 q)]
      have e9 : spillC f r = r := by unfold spillC; rw [if_pos q]
      rw [e9] at hq
      refine ⟨fun _ => ?_, fun q2 => absurd rfl q2⟩
      rw [nI_1]
      exact s_Coach_spill_28_2 (l_spill_28 h d (f + 1) r (by omega) hq)
    · rw [if_pos ⟨by omega, q⟩]
      refine ⟨fun q2 => absurd q2 (by decide), fun _ => ?_⟩
      refine p_tightOf_28 h2 (by omega) ?_
      rw [if_pos (by omega)]
      refine p_setTight_28 h2 (by omega) _ ?_
      rw [row_row]
      have h3 : hN (m_row I 29 (upd r (8 + f) (p0 (r (8 + f) - 3)))) F S := h
      have e3 : (m_row I 29 (upd r (8 + f) (p0 (r (8 + f) - 3)))) 29 (8 + f) = p0 (r (8 + f) - 3) := by
        show upd r (8 + f) (p0 (r (8 + f) - 3)) (8 + f) = _
        unfold upd
        exact if_pos rfl
      refine p_tightOf_28 h3 (by omega) ?_
      rw [if_pos (by omega), e3]
      refine ⟨fun q2 => ?_, fun q2 => ?_⟩
      · have e9 : spillC f r = upd (upd r (8 + f) (p0 (r (8 + f) - 3))) f (-1) := by unfold spillC; rw [if_neg q, if_pos q2]
        rw [e9] at hq
        refine p_takeOut_28 h3 (by omega) ?_
        rw [row_row, nI_1]
        exact s_Coach_spill_28_2 (l_spill_28 h d (f + 1) _ (by omega) hq)
      · have e9 : spillC f r = upd r (8 + f) (p0 (r (8 + f) - 3)) := by unfold spillC; rw [if_neg q, if_neg q2]
        rw [e9] at hq
        rw [nI_1]
        exact s_Coach_spill_28_2 (l_spill_28 h d (f + 1) _ (by omega) hq)
theorem p_spill_28 (h : hN I F S) (hq : Q (.inl none) (m_row I 29 (rep spillC F 0 (I 29))) T) : ev E 140 0 [some (.ref 28), none] [] I T Q := by
  refine s_Coach_spill_28_0 ?_
  unfold t_Coach_spill_28_0
  have := l_spill_28 (E := E) (Q := Q) (T := T) h F 0 (I 29) (by omega) hq
  rw [row_self] at this
  exact this
theorem l_tally_28 (k : Nat) (hk : k < 3) (r : Nat → Int32) (hq : Q (.inl none) (m_row I 29 (tally k r)) T) : t_Coach_driveOver_28_58 E (m_row I 29 r) T Q (nI k) := by
  unfold t_Coach_driveOver_28_58 t_Coach_driveOver_28_73
  refine p_within _ _ _ ?_
  rw [if_neg (nI_pos (by omega)), if_neg (show ¬ (2 : Int32) < nI k from nI_nlt (a := 2) (b := k) (by omega) (by omega))]
  refine ⟨fun q => absurd q (by decide), fun _ => ?_⟩
  rw [z26]
  refine ⟨gix (by omega) (by omega), gix (by omega) (by omega), ?_⟩
  rw [nI_clamp (by omega), up_row]
  exact hq
/-- a stage is driven -/
theorem p_driveOver_28 (h : hN I F S) (hr : lawR I n cd) {s : Nat} (hs : s < S) (hq : ∀ J, FR [18, 19, 28] I J → Q (.inl none) (m_row J 29 (driveC (I 7 s) (I 8 s) (I 3 7) ((sidesC_28 I F n cd).1 + (sidesC_28 I F n cd).2) (ab ((sidesC_28 I F n cd).1 - (sidesC_28 I F n cd).2)) F (I 29))) T) : ev E 120 0 [some (.ref 28), some (.int (nI s)), none, none, none] [] I T Q := by
  have h6 := h.2.2.2
  refine s_Coach_driveOver_28_0 ?_
  unfold t_Coach_driveOver_28_0
  refine p_weigh_28 h hr (fun J hF he => ?_)
  have h2 := h.keep (by decide) hF
  have hq := hq J hF
  rw [← he] at hq
  have e7 : J 7 = I 7 := hF 7 (by decide)
  have e8 : J 8 = I 8 := hF 8 (by decide)
  have e3 : J 3 = I 3 := hF 3 (by decide)
  have er : J 29 = I 29 := hF 29 (by decide)
  refine p_outcomeAsWeighed_28 h2 hs ?_
  rw [e7, e8, e3, outc_N]
  rw [← er] at hq
  have hk := outN_lt (I 7 s) (I 8 s) (I 3 7) (J 28 3 + J 28 4) (ab (J 28 3 - J 28 4))
  unfold driveC at hq
  generalize hN9 : outN (I 7 s) (I 8 s) (I 3 7) (J 28 3 + J 28 4) (ab (J 28 3 - J 28 4)) = k at hq hk ⊢
  refine ⟨fun q => ?_, fun q => ⟨fun q2 => ?_, fun q2 => ?_⟩⟩
  · have k0 : k = 0 := (nI_eq (by omega) (by omega)).mp q
    subst k0
    refine p_tireTeam_28 h2 _ ?_
    exact l_tally_28 0 (by omega) _ hq
  · have k1 : k = 1 := (nI_eq (b := 1) (by omega) (by omega)).mp q2
    subst k1
    refine p_tireTeam_28 h2 _ ?_
    have h3 : hN (m_row J 29 (rep (tireC 5) F 0 (J 29))) F S := h2
    refine p_spill_28 h3 ?_
    rw [row_row]
    exact l_tally_28 1 (by omega) _ hq
  · have k2 : k = 2 := by
      have a1 : k ≠ 0 := fun z => q (by rw [z]; rfl)
      have a2 : k ≠ 1 := fun z => q2 (by rw [z]; rfl)
      omega
    subst k2
    have fin : ∀ y : Int32, y = slowC (I 7 s) (J 28 3 + J 28 4) → t_Coach_driveOver_28_37 E J T Q (nI s) (nI 2) y := by
      intro y hy
      unfold t_Coach_driveOver_28_37
      refine p_turnOf h2 (by omega) ?_
      rw [if_pos hs, e8]
      refine p_tireTeam_28 h2 _ ?_
      change t_Coach_driveOver_28_58 E (m_up (m_row J 29 (rep (tireC (y + 1 + I 8 s / 3)) F 0 (J 29))) 29 25 ((rep (tireC (y + 1 + I 8 s / 3)) F 0 (J 29)) 25 + 1)) T Q (nI 2)
      rw [up_row]
      refine l_tally_28 2 (by omega) _ ?_
      rw [hy]
      exact hq
    refine ⟨fun q3 => ?_, fun q3 => ?_⟩
    · exact fin 0 (by unfold slowC; rw [if_pos q3])
    · refine p_lengthOf h2 (by omega) ?_
      rw [if_pos hs, e7]
      refine ⟨fun z => q3 (by rw [z]; decide), ?_⟩
      exact fin _ (by unfold slowC; rw [if_neg q3])
theorem p_takeOut_30 (h : hN I F S) {f : Nat} (hf : f < F) (hq : Q (.inl none) (m_row I 31 (upd (I 31) f (-1))) T) : ev E 118 0 [some (.ref 30), some (.int (nI f))] [] I T Q := by
  refine s_Coach_takeOut_30_0 ?_
  unfold t_Coach_takeOut_30_0
  refine p_setPlace_30 h hf _ ?_
  exact hq
theorem l_tireTeam_30 (h : hN I F S) (m : Int32) : ∀ (d f : Nat) (r : Nat → Int32), f + d = F → Q (.inl none) (m_row I 31 (rep (tireC m) d f r)) T → t_Coach_tireTeam_30_2 E (m_row I 31 r) T Q m (nI f)
  | 0, f, r, hf, hq => by
    have h2 : hN (m_row I 31 r) F S := h
    have := h.2.1
    unfold t_Coach_tireTeam_30_2
    rw [h2.1]
    exact ⟨fun _ => hq, fun q => absurd (nI_le (by omega) (by omega)) q⟩
  | d + 1, f, r, hf, hq => by
    have h2 : hN (m_row I 31 r) F S := h
    have h8 := h.2.1
    have e2 : ∀ j, (m_row I 31 r) 31 j = r j := fun _ => rfl
    unfold t_Coach_tireTeam_30_2 t_Coach_tireTeam_30_19
    rw [h2.1]
    refine ⟨fun q => absurd q (nI_ge (by omega) (by omega)), fun _ => ?_⟩
    refine p_hasPlace_30 h2 (by omega) ?_
    rw [e2]
    rw [rep] at hq
    by_cases q : r f = -1
    · rw [if_neg (fun z => z.2 q)]
      have e9 : tireC m f r = r := by unfold tireC; rw [if_pos q]
      rw [e9] at hq
      refine ⟨fun _ => ?_, fun q2 => absurd rfl q2⟩
      rw [nI_1]
      exact s_Coach_tireTeam_30_2 (l_tireTeam_30 h m d (f + 1) r (by omega) hq)
    · rw [if_pos ⟨by omega, q⟩]
      have e9 : tireC m f r = upd r (16 + f) (t999 (r (16 + f) + m)) := by unfold tireC; rw [if_neg q]
      rw [e9] at hq
      refine ⟨fun q2 => absurd q2 (by decide), fun _ => ?_⟩
      refine p_tiredOf_30 h2 (by omega) ?_
      rw [if_pos (by omega)]
      refine p_setTired_30 h2 (by omega) _ ?_
      rw [row_row, nI_1]
      exact s_Coach_tireTeam_30_2 (l_tireTeam_30 h m d (f + 1) _ (by omega) hq)
theorem p_tireTeam_30 (h : hN I F S) (m : Int32) (hq : Q (.inl none) (m_row I 31 (rep (tireC m) F 0 (I 31))) T) : ev E 138 0 [some (.ref 30), some (.int m), none] [] I T Q := by
  refine s_Coach_tireTeam_30_0 ?_
  unfold t_Coach_tireTeam_30_0
  have := l_tireTeam_30 (E := E) (Q := Q) (T := T) h m F 0 (I 31) (by omega) hq
  rw [row_self] at this
  exact this
theorem l_spill_30 (h : hN I F S) : ∀ (d f : Nat) (r : Nat → Int32), f + d = F → Q (.inl none) (m_row I 31 (rep spillC d f r)) T → t_Coach_spill_30_2 E (m_row I 31 r) T Q (nI f)
  | 0, f, r, hf, hq => by
    have h2 : hN (m_row I 31 r) F S := h
    have := h.2.1
    unfold t_Coach_spill_30_2
    rw [h2.1]
    exact ⟨fun _ => hq, fun q => absurd (nI_le (by omega) (by omega)) q⟩
  | d + 1, f, r, hf, hq => by
    have h2 : hN (m_row I 31 r) F S := h
    have h8 := h.2.1
    have e2 : ∀ j, (m_row I 31 r) 31 j = r j := fun _ => rfl
    unfold t_Coach_spill_30_2 t_Coach_spill_30_26
    rw [h2.1]
    refine ⟨fun q => absurd q (nI_ge (by omega) (by omega)), fun _ => ?_⟩
    refine p_hasPlace_30 h2 (by omega) ?_
    rw [e2]
    rw [rep] at hq
    by_cases q : r f = -1
    · rw [if_neg (fun z => z.2 q)]
      have e9 : spillC f r = r := by unfold spillC; rw [if_pos q]
      rw [e9] at hq
      refine ⟨fun _ => ?_, fun q2 => absurd rfl q2⟩
      rw [nI_1]
      exact s_Coach_spill_30_2 (l_spill_30 h d (f + 1) r (by omega) hq)
    · rw [if_pos ⟨by omega, q⟩]
      refine ⟨fun q2 => absurd q2 (by decide), fun _ => ?_⟩
      refine p_tightOf_30 h2 (by omega) ?_
      rw [if_pos (by omega)]
      refine p_setTight_30 h2 (by omega) _ ?_
      rw [row_row]
      have h3 : hN (m_row I 31 (upd r (8 + f) (p0 (r (8 + f) - 3)))) F S := h
      have e3 : (m_row I 31 (upd r (8 + f) (p0 (r (8 + f) - 3)))) 31 (8 + f) = p0 (r (8 + f) - 3) := by
        show upd r (8 + f) (p0 (r (8 + f) - 3)) (8 + f) = _
        unfold upd
        exact if_pos rfl
      refine p_tightOf_30 h3 (by omega) ?_
      rw [if_pos (by omega), e3]
      refine ⟨fun q2 => ?_, fun q2 => ?_⟩
      · have e9 : spillC f r = upd (upd r (8 + f) (p0 (r (8 + f) - 3))) f (-1) := by unfold spillC; rw [if_neg q, if_pos q2]
        rw [e9] at hq
        refine p_takeOut_30 h3 (by omega) ?_
        rw [row_row, nI_1]
        exact s_Coach_spill_30_2 (l_spill_30 h d (f + 1) _ (by omega) hq)
      · have e9 : spillC f r = upd r (8 + f) (p0 (r (8 + f) - 3)) := by unfold spillC; rw [if_neg q, if_neg q2]
        rw [e9] at hq
        rw [nI_1]
        exact s_Coach_spill_30_2 (l_spill_30 h d (f + 1) _ (by omega) hq)
theorem p_spill_30 (h : hN I F S) (hq : Q (.inl none) (m_row I 31 (rep spillC F 0 (I 31))) T) : ev E 140 0 [some (.ref 30), none] [] I T Q := by
  refine s_Coach_spill_30_0 ?_
  unfold t_Coach_spill_30_0
  have := l_spill_30 (E := E) (Q := Q) (T := T) h F 0 (I 31) (by omega) hq
  rw [row_self] at this
  exact this
theorem l_tally_30 (k : Nat) (hk : k < 3) (r : Nat → Int32) (hq : Q (.inl none) (m_row I 31 (tally k r)) T) : t_Coach_driveOver_30_58 E (m_row I 31 r) T Q (nI k) := by
  unfold t_Coach_driveOver_30_58 t_Coach_driveOver_30_73
  refine p_within _ _ _ ?_
  rw [if_neg (nI_pos (by omega)), if_neg (show ¬ (2 : Int32) < nI k from nI_nlt (a := 2) (b := k) (by omega) (by omega))]
  refine ⟨fun q => absurd q (by decide), fun _ => ?_⟩
  rw [z26]
  refine ⟨gix (by omega) (by omega), gix (by omega) (by omega), ?_⟩
  rw [nI_clamp (by omega), up_row]
  exact hq
/-- a stage is driven -/
theorem p_driveOver_30 (h : hN I F S) (hr : lawR I n cd) {s : Nat} (hs : s < S) (hq : ∀ J, FR [18, 19, 30] I J → Q (.inl none) (m_row J 31 (driveC (I 7 s) (I 8 s) (I 3 7) ((sidesC_30 I F n cd).1 + (sidesC_30 I F n cd).2) (ab ((sidesC_30 I F n cd).1 - (sidesC_30 I F n cd).2)) F (I 31))) T) : ev E 120 0 [some (.ref 30), some (.int (nI s)), none, none, none] [] I T Q := by
  have h6 := h.2.2.2
  refine s_Coach_driveOver_30_0 ?_
  unfold t_Coach_driveOver_30_0
  refine p_weigh_30 h hr (fun J hF he => ?_)
  have h2 := h.keep (by decide) hF
  have hq := hq J hF
  rw [← he] at hq
  have e7 : J 7 = I 7 := hF 7 (by decide)
  have e8 : J 8 = I 8 := hF 8 (by decide)
  have e3 : J 3 = I 3 := hF 3 (by decide)
  have er : J 31 = I 31 := hF 31 (by decide)
  refine p_outcomeAsWeighed_30 h2 hs ?_
  rw [e7, e8, e3, outc_N]
  rw [← er] at hq
  have hk := outN_lt (I 7 s) (I 8 s) (I 3 7) (J 30 3 + J 30 4) (ab (J 30 3 - J 30 4))
  unfold driveC at hq
  generalize hN9 : outN (I 7 s) (I 8 s) (I 3 7) (J 30 3 + J 30 4) (ab (J 30 3 - J 30 4)) = k at hq hk ⊢
  refine ⟨fun q => ?_, fun q => ⟨fun q2 => ?_, fun q2 => ?_⟩⟩
  · have k0 : k = 0 := (nI_eq (by omega) (by omega)).mp q
    subst k0
    refine p_tireTeam_30 h2 _ ?_
    exact l_tally_30 0 (by omega) _ hq
  · have k1 : k = 1 := (nI_eq (b := 1) (by omega) (by omega)).mp q2
    subst k1
    refine p_tireTeam_30 h2 _ ?_
    have h3 : hN (m_row J 31 (rep (tireC 5) F 0 (J 31))) F S := h2
    refine p_spill_30 h3 ?_
    rw [row_row]
    exact l_tally_30 1 (by omega) _ hq
  · have k2 : k = 2 := by
      have a1 : k ≠ 0 := fun z => q (by rw [z]; rfl)
      have a2 : k ≠ 1 := fun z => q2 (by rw [z]; rfl)
      omega
    subst k2
    have fin : ∀ y : Int32, y = slowC (I 7 s) (J 30 3 + J 30 4) → t_Coach_driveOver_30_37 E J T Q (nI s) (nI 2) y := by
      intro y hy
      unfold t_Coach_driveOver_30_37
      refine p_turnOf h2 (by omega) ?_
      rw [if_pos hs, e8]
      refine p_tireTeam_30 h2 _ ?_
      change t_Coach_driveOver_30_58 E (m_up (m_row J 31 (rep (tireC (y + 1 + I 8 s / 3)) F 0 (J 31))) 31 25 ((rep (tireC (y + 1 + I 8 s / 3)) F 0 (J 31)) 25 + 1)) T Q (nI 2)
      rw [up_row]
      refine l_tally_30 2 (by omega) _ ?_
      rw [hy]
      exact hq
    refine ⟨fun q3 => ?_, fun q3 => ?_⟩
    · exact fin 0 (by unfold slowC; rw [if_pos q3])
    · refine p_lengthOf h2 (by omega) ?_
      rw [if_pos hs, e7]
      refine ⟨fun z => q3 (by rw [z]; decide), ?_⟩
      exact fin _ (by unfold slowC; rw [if_neg q3])
end DRV
