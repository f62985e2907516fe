/-! ===== contracts: what a stage comes to; who can be put, whether they can drive ===== -/
def ab (x : Int32) : Int32 := if 0 ≤ x then x else 0 - x
/-- 0 stuck, 1 spilt, 2 through -/
def outc (len turn bears st tilt : Int32) : Int32 := if len / 3 + 1 ≤ st then (if tilt + turn ≤ bears then 2 else 1) else 0
def canD (r : Nat → Int32) (F S : Nat) : Int32 := if bits r F = 0 then 0 else if nI S ≤ r 25 then 0 else 1
def canP (r : Nat → Int32) (F : Nat) (foes : Int32) (f : Nat) (p : Int32) : Int32 := if r f = -1 then (if whoAt r p F 0 = -1 then (if (foes &&& bits r F) = 0 then 1 else 0) else 0) else 0
section OUTC
variable {E : MEnv} {I : II} {T : TT} {Q : QQ} {F S n : Nat} {cd : Nat → Nat × Int32}
theorem p_comesBy {s : Nat} (hs : s < 6) (st tilt : Int32) (hq : Q (.inl (some (.int (outc (I (77 + s) 0) (I (77 + s) 1) (I 50 2) st tilt)))) I T) : ev E 165 0 [some (.ref 46), some (.int (nI s)), some (.int st), some (.int tilt)] [] I T Q := by
  refine s_M_comesBy_0 ?_
  unfold t_M_comesBy_0 t_M_comesBy_30
  rw [nI_clamp (by omega)]
  unfold outc at hq
  refine ⟨⟨nI_pos (by omega), hs⟩, fun q => ⟨⟨nI_pos (by omega), hs⟩, fun q2 => ?_, fun q2 => ?_⟩, fun q => ?_⟩
  · rw [if_pos q, if_pos q2] at hq; exact hq
  · rw [if_pos q, if_neg q2] at hq; exact hq
  · rw [if_neg q] at hq; exact hq
theorem p_outcomeAsWeighed_28 (h : hN I F S) {s : Nat} (hs : s < S) (hq : Q (.inl (some (.int (outc (I 7 s) (I 8 s) (I 3 7) (I 28 3 + I 28 4) (ab (I 28 3 - I 28 4)))))) I T) : ev E 133 0 [some (.ref 28), some (.int (nI s))] [] I T Q := by
  have h6 := h.2.2.2
  refine s_Coach_outcomeAsWeighed_28_0 ?_
  unfold t_Coach_outcomeAsWeighed_28_0 t_Coach_outcomeAsWeighed_28_30
  refine p_leastStrength h (by omega) ?_
  rw [if_pos hs]
  unfold outc ab at hq
  refine ⟨fun q => ?_, fun q => ?_⟩
  · refine p_turnOf h (by omega) ?_
    rw [if_pos hs]
    rw [if_pos q] at hq
    refine ⟨fun q2 => ?_, fun q2 => ?_⟩
    · rw [if_pos q2] at hq; exact hq
    · rw [if_neg q2] at hq; exact hq
  · rw [if_neg q] at hq
    exact hq
theorem p_outcome_28 (h : hN I F S) (hr : lawR I n cd) {s : Nat} (hs : s < S) (hq : ∀ I', FR [18, 19, 28] I I' → Q (.inl (some (.int (outc (I 7 s) (I 8 s) (I 3 7) ((sidesC_28 I F n cd).1 + (sidesC_28 I F n cd).2) (ab ((sidesC_28 I F n cd).1 - (sidesC_28 I F n cd).2)))))) I' T) : ev E 209 0 [some (.ref 28), some (.int (nI s))] [] I T Q := by
  refine s_Coach_outcome_28_0 ?_
  unfold t_Coach_outcome_28_0
  refine p_weigh_28 h hr (fun I' hF he => ?_)
  refine p_outcomeAsWeighed_28 (h.keep (by decide) hF) hs ?_
  have := hq I' hF
  rw [← he] at this
  rw [hF 7 (by decide), hF 8 (by decide), hF 3 (by decide)]
  exact this
theorem p_tiltNow_28 (h : hN I F S) (hr : lawR I n cd) (hq : ∀ I', FR [18, 19, 28] I I' → Q (.inl (some (.int (ab ((sidesC_28 I F n cd).1 - (sidesC_28 I F n cd).2))))) I' T) : ev E 183 0 [some (.ref 28)] [] I T Q := by
  refine s_Coach_tiltNow_28_0 ?_
  unfold t_Coach_tiltNow_28_0
  refine p_weigh_28 h hr (fun I' hF he => ?_)
  have := hq I' hF
  rw [← he] at this
  exact this
theorem p_canDrive_28 (h : hN I F S) (hq : Q (.inl (some (.int (canD (I 29) F S)))) I T) : ev E 114 0 [some (.ref 28)] [] I T Q := by
  refine s_Coach_canDrive_28_0 ?_
  unfold t_Coach_canDrive_28_0 t_Coach_canDrive_28_11 t_Coach_canDrive_28_12
  refine p_teamBits_28 h ?_
  unfold canD at hq
  refine ⟨fun q => ?_, fun q => ?_⟩
  · rw [if_pos q] at hq; exact ⟨Or.inl rfl, hq⟩
  · rw [if_neg q] at hq
    refine p_behind_28 ?_
    change (I 3 6 ≤ _ → _) ∧ (¬ I 3 6 ≤ _ → _)
    rw [h.2.2.1]
    refine ⟨fun q2 => ?_, fun q2 => ?_⟩
    · rw [if_pos q2] at hq; exact ⟨Or.inl rfl, hq⟩
    · rw [if_neg q2] at hq; exact ⟨Or.inr rfl, hq⟩
theorem p_canPut_28 (h : hN I F S) {f : Nat} (hf : f < F) (p : Int32) (hq : Q (.inl (some (.int (canP (I 29) F (I 6 f) f p)))) I T) : ev E 106 0 [some (.ref 28), some (.int (nI f)), some (.int p)] [] I T Q := by
  have h8 := h.2.1
  refine s_Coach_canPut_28_0 ?_
  unfold t_Coach_canPut_28_0 t_Coach_canPut_28_24 t_Coach_canPut_28_25
  unfold canP at hq
  refine p_isFeeling h (by omega) ?_
  rw [if_pos hf]
  refine ⟨fun q => absurd q (by decide), fun _ => ?_⟩
  refine p_hasPlace_28 h (by omega) ?_
  by_cases q : I 29 f = -1
  · rw [if_neg (fun z => z.2 q)]
    rw [if_pos q] at hq
    refine ⟨fun _ => ?_, fun q2 => absurd rfl q2⟩
    refine p_whoIsAt_28 h p ?_
    refine ⟨fun q3 => ?_, fun q3 => ?_⟩
    · rw [if_pos q3] at hq
      refine p_foesOf h (by omega) ?_
      rw [if_pos hf]
      refine p_teamBits_28 h ?_
      refine ⟨fun q4 => ?_, fun q4 => ?_⟩
      · rw [if_pos q4] at hq; exact ⟨Or.inr rfl, hq⟩
      · rw [if_neg q4] at hq; exact ⟨Or.inl rfl, hq⟩
    · rw [if_neg q3] at hq; exact ⟨Or.inl rfl, hq⟩
  · rw [if_pos ⟨hf, q⟩]
    rw [if_neg q] at hq
    exact ⟨fun q2 => absurd q2 (by decide), fun _ => ⟨Or.inl rfl, hq⟩⟩
theorem p_outcomeAsWeighed_30 (h : hN I F S) {s : Nat} (hs : s < S) (hq : Q (.inl (some (.int (outc (I 7 s) (I 8 s) (I 3 7) (I 30 3 + I 30 4) (ab (I 30 3 - I 30 4)))))) I T) : ev E 133 0 [some (.ref 30), some (.int (nI s))] [] I T Q := by
  have h6 := h.2.2.2
  refine s_Coach_outcomeAsWeighed_30_0 ?_
  unfold t_Coach_outcomeAsWeighed_30_0 t_Coach_outcomeAsWeighed_30_30
  refine p_leastStrength h (by omega) ?_
  rw [if_pos hs]
  unfold outc ab at hq
  refine ⟨fun q => ?_, fun q => ?_⟩
  · refine p_turnOf h (by omega) ?_
    rw [if_pos hs]
    rw [if_pos q] at hq
    refine ⟨fun q2 => ?_, fun q2 => ?_⟩
    · rw [if_pos q2] at hq; exact hq
    · rw [if_neg q2] at hq; exact hq
  · rw [if_neg q] at hq
    exact hq
theorem p_outcome_30 (h : hN I F S) (hr : lawR I n cd) {s : Nat} (hs : s < S) (hq : ∀ I', FR [18, 19, 30] I I' → Q (.inl (some (.int (outc (I 7 s) (I 8 s) (I 3 7) ((sidesC_30 I F n cd).1 + (sidesC_30 I F n cd).2) (ab ((sidesC_30 I F n cd).1 - (sidesC_30 I F n cd).2)))))) I' T) : ev E 209 0 [some (.ref 30), some (.int (nI s))] [] I T Q := by
  refine s_Coach_outcome_30_0 ?_
  unfold t_Coach_outcome_30_0
  refine p_weigh_30 h hr (fun I' hF he => ?_)
  refine p_outcomeAsWeighed_30 (h.keep (by decide) hF) hs ?_
  have := hq I' hF
  rw [← he] at this
  rw [hF 7 (by decide), hF 8 (by decide), hF 3 (by decide)]
  exact this
theorem p_tiltNow_30 (h : hN I F S) (hr : lawR I n cd) (hq : ∀ I', FR [18, 19, 30] I I' → Q (.inl (some (.int (ab ((sidesC_30 I F n cd).1 - (sidesC_30 I F n cd).2))))) I' T) : ev E 183 0 [some (.ref 30)] [] I T Q := by
  refine s_Coach_tiltNow_30_0 ?_
  unfold t_Coach_tiltNow_30_0
  refine p_weigh_30 h hr (fun I' hF he => ?_)
  have := hq I' hF
  rw [← he] at this
  exact this
theorem p_canDrive_30 (h : hN I F S) (hq : Q (.inl (some (.int (canD (I 31) F S)))) I T) : ev E 114 0 [some (.ref 30)] [] I T Q := by
  refine s_Coach_canDrive_30_0 ?_
  unfold t_Coach_canDrive_30_0 t_Coach_canDrive_30_11 t_Coach_canDrive_30_12
  refine p_teamBits_30 h ?_
  unfold canD at hq
  refine ⟨fun q => ?_, fun q => ?_⟩
  · rw [if_pos q] at hq; exact ⟨Or.inl rfl, hq⟩
  · rw [if_neg q] at hq
    refine p_behind_30 ?_
    change (I 3 6 ≤ _ → _) ∧ (¬ I 3 6 ≤ _ → _)
    rw [h.2.2.1]
    refine ⟨fun q2 => ?_, fun q2 => ?_⟩
    · rw [if_pos q2] at hq; exact ⟨Or.inl rfl, hq⟩
    · rw [if_neg q2] at hq; exact ⟨Or.inr rfl, hq⟩
theorem p_canPut_30 (h : hN I F S) {f : Nat} (hf : f < F) (p : Int32) (hq : Q (.inl (some (.int (canP (I 31) F (I 6 f) f p)))) I T) : ev E 106 0 [some (.ref 30), some (.int (nI f)), some (.int p)] [] I T Q := by
  have h8 := h.2.1
  refine s_Coach_canPut_30_0 ?_
  unfold t_Coach_canPut_30_0 t_Coach_canPut_30_24 t_Coach_canPut_30_25
  unfold canP at hq
  refine p_isFeeling h (by omega) ?_
  rw [if_pos hf]
  refine ⟨fun q => absurd q (by decide), fun _ => ?_⟩
  refine p_hasPlace_30 h (by omega) ?_
  by_cases q : I 31 f = -1
  · rw [if_neg (fun z => z.2 q)]
    rw [if_pos q] at hq
    refine ⟨fun _ => ?_, fun q2 => absurd rfl q2⟩
    refine p_whoIsAt_30 h p ?_
    refine ⟨fun q3 => ?_, fun q3 => ?_⟩
    · rw [if_pos q3] at hq
      refine p_foesOf h (by omega) ?_
      rw [if_pos hf]
      refine p_teamBits_30 h ?_
      refine ⟨fun q4 => ?_, fun q4 => ?_⟩
      · rw [if_pos q4] at hq; exact ⟨Or.inr rfl, hq⟩
      · rw [if_neg q4] at hq; exact ⟨Or.inl rfl, hq⟩
    · rw [if_neg q3] at hq; exact ⟨Or.inl rfl, hq⟩
  · rw [if_pos ⟨hf, q⟩]
    rw [if_neg q] at hq
    exact ⟨fun q2 => absurd q2 (by decide), fun _ => ⟨Or.inl rfl, hq⟩⟩
theorem p_strengthNow (h : hN I F S) (hr : lawR I n cd) (hq : ∀ I', FR [18, 19, 28] I I' → Q (.inl (some (.int ((sidesC_28 I F n cd).1 + (sidesC_28 I F n cd).2)))) I' T) : ev E 182 0 [some (.ref 28)] [] I T Q := by
  refine s_Coach_strengthNow_28_0 ?_
  unfold t_Coach_strengthNow_28_0
  refine p_weigh_28 h hr (fun I' hF he => ?_)
  have := hq I' hF
  rw [← he] at this
  exact this
theorem p_tiltOf_508 (h : mN I F S) (hr : lawR I n cd) (hp : plc (I 508) F) (hq : ∀ I', FR [425, 426] I I' → Q (.inl (some (.int (ab ((sidesM_508 I F n cd).1 - (sidesM_508 I F n cd).2))))) I' T) : ev E 164 0 [some (.ref 46), some (.ref 508), none] [] I T Q := by
  refine s_M_tiltOf_508_0 ?_
  unfold t_M_tiltOf_508_0 t_M_tiltOf_508_11
  refine p_pulls_508 h hr hp 0 false ⟨fun _ => rfl, fun _ => rfl⟩ (fun I' hF => ?_)
  have := hq I' hF
  unfold ab at this
  rw [if_neg (by decide)]
  refine ⟨fun q => ?_, fun q => ?_⟩
  · rw [if_pos q] at this; exact this
  · rw [if_neg q] at this; exact this
theorem p_mcanDrive_508 (h : mN I F S) (hq : Q (.inl (some (.int (canD (I 508) F S)))) I T) : ev E 154 0 [some (.ref 46), some (.ref 508)] [] I T Q := by
  refine s_M_canDrive_508_0 ?_
  unfold t_M_canDrive_508_0 t_M_canDrive_508_14 t_M_canDrive_508_15
  refine p_teamOf_508 h ?_
  unfold canD at hq
  refine ⟨fun q => ?_, fun q => ?_⟩
  · rw [if_pos q] at hq; exact ⟨Or.inl rfl, hq⟩
  · rw [if_neg q] at hq
    change (I 50 1 ≤ _ → _) ∧ (¬ I 50 1 ≤ _ → _)
    rw [h.2.2.1]
    refine ⟨fun q2 => ?_, fun q2 => ?_⟩
    · rw [if_pos q2] at hq; exact ⟨Or.inl rfl, hq⟩
    · rw [if_neg q2] at hq; exact ⟨Or.inr rfl, hq⟩
theorem p_canBePut_508 (h : mN I F S) {f : Nat} (hf : f < F) (p : Int32) (hq : Q (.inl (some (.int (canP (I 508) F (I 84 f) f p)))) I T) : ev E 150 0 [some (.ref 46), some (.ref 508), some (.int (nI f)), some (.int p)] [] I T Q := by
  have h8 := h.2.1
  refine s_M_canBePut_508_0 ?_
  unfold t_M_canBePut_508_0 t_M_canBePut_508_24 t_M_canBePut_508_25
  unfold canP at hq
  rw [z0]
  refine ⟨gix (by omega) (by omega), ?_⟩
  rw [nI_clamp (by omega)]
  refine ⟨fun q => ?_, fun q => ?_⟩
  · rw [if_pos q] at hq
    refine p_holder_508 h p ?_
    refine ⟨fun q3 => ⟨⟨nI_pos (n := f) (by omega), (by omega : f < 8)⟩, ?_⟩, fun q3 => ?_⟩
    · rw [if_pos q3] at hq
      refine p_teamOf_508 h ?_
      refine ⟨fun q4 => ?_, fun q4 => ?_⟩
      · rw [if_pos q4] at hq; exact ⟨Or.inr rfl, hq⟩
      · rw [if_neg q4] at hq; exact ⟨Or.inl rfl, hq⟩
    · rw [if_neg q3] at hq; exact ⟨Or.inl rfl, hq⟩
  · rw [if_neg q] at hq; exact ⟨Or.inl rfl, hq⟩
theorem p_tiltOf_509 (h : mN I F S) (hr : lawR I n cd) (hp : plc (I 509) F) (hq : ∀ I', FR [425, 426] I I' → Q (.inl (some (.int (ab ((sidesM_509 I F n cd).1 - (sidesM_509 I F n cd).2))))) I' T) : ev E 164 0 [some (.ref 46), some (.ref 509), none] [] I T Q := by
  refine s_M_tiltOf_509_0 ?_
  unfold t_M_tiltOf_509_0 t_M_tiltOf_509_11
  refine p_pulls_509 h hr hp 0 false ⟨fun _ => rfl, fun _ => rfl⟩ (fun I' hF => ?_)
  have := hq I' hF
  unfold ab at this
  rw [if_neg (by decide)]
  refine ⟨fun q => ?_, fun q => ?_⟩
  · rw [if_pos q] at this; exact this
  · rw [if_neg q] at this; exact this
theorem p_mcanDrive_509 (h : mN I F S) (hq : Q (.inl (some (.int (canD (I 509) F S)))) I T) : ev E 154 0 [some (.ref 46), some (.ref 509)] [] I T Q := by
  refine s_M_canDrive_509_0 ?_
  unfold t_M_canDrive_509_0 t_M_canDrive_509_14 t_M_canDrive_509_15
  refine p_teamOf_509 h ?_
  unfold canD at hq
  refine ⟨fun q => ?_, fun q => ?_⟩
  · rw [if_pos q] at hq; exact ⟨Or.inl rfl, hq⟩
  · rw [if_neg q] at hq
    change (I 50 1 ≤ _ → _) ∧ (¬ I 50 1 ≤ _ → _)
    rw [h.2.2.1]
    refine ⟨fun q2 => ?_, fun q2 => ?_⟩
    · rw [if_pos q2] at hq; exact ⟨Or.inl rfl, hq⟩
    · rw [if_neg q2] at hq; exact ⟨Or.inr rfl, hq⟩
theorem p_canBePut_509 (h : mN I F S) {f : Nat} (hf : f < F) (p : Int32) (hq : Q (.inl (some (.int (canP (I 509) F (I 84 f) f p)))) I T) : ev E 150 0 [some (.ref 46), some (.ref 509), some (.int (nI f)), some (.int p)] [] I T Q := by
  have h8 := h.2.1
  refine s_M_canBePut_509_0 ?_
  unfold t_M_canBePut_509_0 t_M_canBePut_509_24 t_M_canBePut_509_25
  unfold canP at hq
  rw [z0]
  refine ⟨gix (by omega) (by omega), ?_⟩
  rw [nI_clamp (by omega)]
  refine ⟨fun q => ?_, fun q => ?_⟩
  · rw [if_pos q] at hq
    refine p_holder_509 h p ?_
    refine ⟨fun q3 => ⟨⟨nI_pos (n := f) (by omega), (by omega : f < 8)⟩, ?_⟩, fun q3 => ?_⟩
    · rw [if_pos q3] at hq
      refine p_teamOf_509 h ?_
      refine ⟨fun q4 => ?_, fun q4 => ?_⟩
      · rw [if_pos q4] at hq; exact ⟨Or.inr rfl, hq⟩
      · rw [if_neg q4] at hq; exact ⟨Or.inl rfl, hq⟩
    · rw [if_neg q3] at hq; exact ⟨Or.inl rfl, hq⟩
  · rw [if_neg q] at hq; exact ⟨Or.inl rfl, hq⟩
end OUTC
