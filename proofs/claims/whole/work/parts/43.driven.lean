/-! ===== contracts: a stage is driven, by the reference ===== -/
def tireM (m : Int32) (f : Nat) (r : Nat → Int32) : Nat → Int32 := upd r (16 + f) (if r (16 + f) + m ≤ 999 then r (16 + f) + m else 999)
def tgtM (f : Nat) (r : Nat → Int32) : Nat → Int32 := upd r (8 + f) (mx0 (r (8 + f) - 3))
def plcM (f : Nat) (r : Nat → Int32) : Nat → Int32 := upd r f (if r (8 + f) = 0 then -1 else r f)
def stepM (r0 : Nat → Int32) (k : Nat) (m : Int32) (f : Nat) (r : Nat → Int32) : Nat → Int32 := if r0 f = -1 then r else if k = 1 then plcM f (tgtM f (tireM m f r)) else tireM m f r
def tallyM (k : Nat) (r : Nat → Int32) : Nat → Int32 := upd r (28 - k) (r (28 - k) + 1)
def endM (k : Nat) (r : Nat → Int32) : Nat → Int32 := upd (tallyM k r) 25 ((tallyM k r) 25 + (if k = 2 then 1 else 0))
def moreM (len turn st : Int32) (k : Nat) : Int32 := if k = 0 then 2 else if k = 1 then 5 else len / st + 1 + turn / 3
/-- the row behind a stage, by the reference -/
def driveM (len turn bears st tilt : Int32) (F : Nat) (r : Nat → Int32) : Nat → Int32 := endM (outN len turn bears st tilt) (rep (stepM r (outN len turn bears st tilt) (moreM len turn st (outN len turn bears st tilt))) F 0 r)
section DRM
variable {E : MEnv} {I : II} {T : TT} {Q : QQ} {F S n : Nat} {cd : Nat → Nat × Int32}
theorem l_end_508 (k : Nat) (hk : k < 3) (r : Nat → Int32) (hq : Q (.inl (some (.int (nI k)))) (m_row I 508 (endM k r)) T) : t_M_driven_508_110 E (m_row I 508 r) T Q (nI k) (nI (28 - k)) := by
  unfold t_M_driven_508_110 t_M_driven_508_125
  refine ⟨gix (by omega) (by omega), gix (by omega) (by omega), ?_⟩
  rw [nI_clamp (by omega), up_row]
  have e1 : ∀ (s : Nat → Int32) (j : Nat), (m_row I 508 s) 508 j = s j := fun _ _ => rfl
  rw [e1]
  unfold endM tallyM at hq
  refine ⟨fun q => ⟨⟨by decide, by decide⟩, ?_⟩, fun q => ⟨⟨by decide, by decide⟩, ?_⟩⟩
  · have k2 : k = 2 := (nI_eq (b := 2) (by omega) (by omega)).mp q
    subst k2
    rw [show (25 : Int32).toNatClampNeg = 25 from rfl, up_row]
    exact hq
  · have k2 : k ≠ 2 := fun z => q (by rw [z]; rfl)
    rw [if_neg k2] at hq
    rw [show (25 : Int32).toNatClampNeg = 25 from rfl, up_row]
    exact hq
theorem l_driven_508 (h : mN I F S) {s : Nat} (hs : s < 6) (st : Int32) {k : Nat} (hk : k < 3) (hst : k = 2 → st ≠ 0) (r0 : Nat → Int32) : ∀ (d f : Nat) (r : Nat → Int32), f + d = F → Q (.inl (some (.int (nI k)))) (m_row I 508 (endM k (rep (stepM r0 k (moreM (I (77 + s) 0) (I (77 + s) 1) st k)) d f r))) T → t_M_driven_508_19 E (m_row I 508 r) T Q (nI s) st (nI k) (bits r0 F) (nI f)
  | 0, f, r, hf, hq => by
    have h2 : mN (m_row I 508 r) F S := h
    have := h.2.1
    unfold t_M_driven_508_19
    rw [h2.1]
    refine ⟨fun _ => ⟨fun q => ?_, fun q => ⟨fun q2 => ?_, fun q2 => ?_⟩⟩, fun q => absurd (nI_le (by omega) (by omega)) q⟩
    · have k0 : k = 0 := (nI_eq (by omega) (by omega)).mp q
      subst k0
      exact l_end_508 0 (by omega) r hq
    · have k1 : k = 1 := (nI_eq (b := 1) (by omega) (by omega)).mp q2
      subst k1
      exact l_end_508 1 (by omega) r hq
    · have k2 : k = 2 := by
        have a1 : k ≠ 0 := fun z => q (by rw [z]; rfl)
        have a2 : k ≠ 1 := fun z => q2 (by rw [z]; rfl)
        omega
      subst k2
      exact l_end_508 2 (by omega) r hq
  | d + 1, f, r, hf, hq => by
    have h2 : mN (m_row I 508 r) F S := h
    have h8 := h.2.1
    have e1 : ∀ (s : Nat → Int32) (j : Nat), (m_row I 508 s) 508 j = s j := fun _ _ => rfl
    have e7 : (m_row I 508 r) (77 + s) = I (77 + s) := m_row_ne (by omega)
    have hb := bits_has r0 h8 (f := f) (by omega)
    rw [rep] at hq
    have next : ∀ r1, stepM r0 k (moreM (I (77 + s) 0) (I (77 + s) 1) st k) f r = r1 → t_M_driven_508_97 E (m_row I 508 r1) T Q (nI s) st (nI k) (bits r0 F) (nI f) := by
      intro r1 hr1
      unfold t_M_driven_508_97
      rw [nI_1]
      rw [hr1] at hq
      exact s_M_driven_508_19 (l_driven_508 h hs st hk hst r0 d (f + 1) r1 (by omega) hq)
    have body : ∀ m, r0 f ≠ -1 → moreM (I (77 + s) 0) (I (77 + s) 1) st k = m → t_M_driven_508_60 E (m_row I 508 r) T Q (nI s) st (nI k) (bits r0 F) (nI f) (nI f) m := by
      intro m hn hm
      unfold t_M_driven_508_60
      refine p_tires_508 (by omega) m ?_
      rw [row_row]
      change (nI k = 1 → _) ∧ (¬ nI k = 1 → _)
      have er : upd ((m_row I 508 r) 508) (16 + f) (if (m_row I 508 r) 508 (16 + f) + m ≤ 999 then (m_row I 508 r) 508 (16 + f) + m else 999) = tireM m f r := rfl
      rw [er]
      refine ⟨fun q => ?_, fun q => ?_⟩
      · have k1 : k = 1 := (nI_eq (b := 1) (by omega) (by omega)).mp q
        rw [z8, z0]
        refine ⟨gix (by omega) (by omega), ?_⟩
        rw [nI_clamp (show 8 + f < 2 ^ 31 by omega), nI_clamp (show f < 2 ^ 31 by omega), e1]
        refine p_more _ _ ?_
        change (¬ nI (8 + f) < 0 ∧ 8 + f < 29) ∧ (¬ nI (8 + f) < 0 ∧ 8 + f < 29) ∧ _
        refine ⟨⟨nI_pos (by omega), by omega⟩, ⟨nI_pos (by omega), by omega⟩, ?_⟩
        rw [up_row]
        have et : upd (tireM m f r) (8 + f) (if 0 ≤ tireM m f r (8 + f) - 3 then tireM m f r (8 + f) - 3 else 0) = tgtM f (tireM m f r) := rfl
        rw [et, e1]
        unfold t_M_driven_508_96
        refine ⟨fun q2 => ⟨gix (by omega) (by omega), ?_⟩, fun q2 => ⟨⟨nI_pos (by omega), by omega⟩, gix (by omega) (by omega), ?_⟩⟩
        · rw [nI_clamp (by omega), up_row]
          exact next _ (by unfold stepM plcM; rw [if_neg hn, if_pos k1, hm, if_pos q2])
        · rw [nI_clamp (by omega), e1, up_row]
          exact next _ (by unfold stepM plcM; rw [if_neg hn, if_pos k1, hm, if_neg q2])
      · have k1 : k ≠ 1 := fun z => q (by rw [z]; rfl)
        exact next _ (by unfold stepM; rw [if_neg hn, if_neg k1, hm])
    unfold t_M_driven_508_19
    rw [h2.1]
    refine ⟨fun q => absurd q (nI_ge (by omega) (by omega)), fun _ => ?_⟩
    refine p_has _ _ ?_
    by_cases q : r0 f = -1
    · rw [if_neg (fun z => hb.mp z q)]
      exact ⟨fun _ => next r (by unfold stepM; rw [if_pos q]), fun q2 => absurd rfl q2⟩
    · rw [if_pos (hb.mpr q)]
      refine ⟨fun q2 => absurd q2 (by decide), fun _ => ⟨fun q2 => ?_, fun q2 => ⟨fun q3 => ?_, fun q3 => ?_⟩⟩⟩
      · have k0 : k = 0 := (nI_eq (by omega) (by omega)).mp q2
        exact body 2 q (by unfold moreM; rw [if_pos k0])
      · have k1 : k = 1 := (nI_eq (b := 1) (by omega) (by omega)).mp q3
        exact body 5 q (by unfold moreM; rw [if_neg (by omega), if_pos k1])
      · have k2 : k = 2 := by
          have a1 : k ≠ 0 := fun z => q2 (by rw [z]; rfl)
          have a2 : k ≠ 1 := fun z => q3 (by rw [z]; rfl)
          omega
        rw [nI_clamp (show s < 2 ^ 31 by omega), e7]
        refine ⟨⟨nI_pos (by omega), hs⟩, hst k2, ⟨nI_pos (by omega), hs⟩, ?_⟩
        exact body _ q (by unfold moreM; rw [if_neg (by omega), if_neg (by omega)])
/-- a stage is driven: what it came to, and the row behind it -/
theorem p_driven_508 (h : mN I F S) (hr : lawR I n cd) (hp : plc (I 508) F) {s : Nat} (hs : s < 6) (hst : outN (I (77 + s) 0) (I (77 + s) 1) (I 50 2) ((sidesM_508 I F n cd).1 + (sidesM_508 I F n cd).2) (ab ((sidesM_508 I F n cd).1 - (sidesM_508 I F n cd).2)) = 2 → (sidesM_508 I F n cd).1 + (sidesM_508 I F n cd).2 ≠ 0)
    (hq : ∀ J, FR [425, 426] I J → Q (.inl (some (.int (outc (I (77 + s) 0) (I (77 + s) 1) (I 50 2) ((sidesM_508 I F n cd).1 + (sidesM_508 I F n cd).2) (ab ((sidesM_508 I F n cd).1 - (sidesM_508 I F n cd).2)))))) (m_row J 508 (driveM (I (77 + s) 0) (I (77 + s) 1) (I 50 2) ((sidesM_508 I F n cd).1 + (sidesM_508 I F n cd).2) (ab ((sidesM_508 I F n cd).1 - (sidesM_508 I F n cd).2)) F (I 508))) T) : ev E 155 0 [some (.ref 46), some (.ref 508), some (.int (nI s)), none, none, none, none] [] I T Q := by
  refine s_M_driven_508_0 ?_
  unfold t_M_driven_508_0
  refine p_pulls_508 h hr hp 1 true ⟨fun q => absurd q (by decide), fun q => by cases q⟩ (fun J hJ => ?_)
  rw [if_pos rfl]
  have er : J 508 = I 508 := hJ 508 (by decide)
  have hp2 : plc (J 508) F := by rw [er]; exact hp
  refine p_tiltOf_508 (h.keep (by decide) hJ) (hr.keep lawL_m hJ) hp2 (fun K hK => ?_)
  have hF : FR [425, 426] I K := hJ.trans hK
  have ek : K 508 = I 508 := hF 508 (by decide)
  have e7 : K (77 + s) = I (77 + s) := hF (77 + s) (by simp; omega)
  have e5 : K 50 = I 50 := hF 50 (by decide)
  have h2 := h.keep (by decide) hF
  have es : sidesM_508 J F n cd = sidesM_508 I F n cd := by
    unfold sidesM_508 sides
    rw [er]
    refine rep_congr F 0 _ (fun g _ hg b => ?_)
    unfold sd foM
    have h8 := h.2.1
    rw [hJ (61 + g) (by simp; omega), er]
  rw [es]
  refine p_comesBy hs _ _ ?_
  rw [e7, e5]
  refine p_teamOf_508 h2 ?_
  have hq := hq K hF
  unfold driveM at hq
  rw [outc_N] at hq ⊢
  have hk := outN_lt (I (77 + s) 0) (I (77 + s) 1) (I 50 2) ((sidesM_508 I F n cd).1 + (sidesM_508 I F n cd).2) (ab ((sidesM_508 I F n cd).1 - (sidesM_508 I F n cd).2))
  have := l_driven_508 (E := E) (Q := Q) (T := T) h2 hs _ hk hst (K 508) F 0 (K 508) (by omega) (by rw [e7, ek]; exact hq)
  rw [row_self] at this
  exact this
theorem l_end_509 (k : Nat) (hk : k < 3) (r : Nat → Int32) (hq : Q (.inl (some (.int (nI k)))) (m_row I 509 (endM k r)) T) : t_M_driven_509_110 E (m_row I 509 r) T Q (nI k) (nI (28 - k)) := by
  unfold t_M_driven_509_110 t_M_driven_509_125
  refine ⟨gix (by omega) (by omega), gix (by omega) (by omega), ?_⟩
  rw [nI_clamp (by omega), up_row]
  have e1 : ∀ (s : Nat → Int32) (j : Nat), (m_row I 509 s) 509 j = s j := fun _ _ => rfl
  rw [e1]
  unfold endM tallyM at hq
  refine ⟨fun q => ⟨⟨by decide, by decide⟩, ?_⟩, fun q => ⟨⟨by decide, by decide⟩, ?_⟩⟩
  · have k2 : k = 2 := (nI_eq (b := 2) (by omega) (by omega)).mp q
    subst k2
    rw [show (25 : Int32).toNatClampNeg = 25 from rfl, up_row]
    exact hq
  · have k2 : k ≠ 2 := fun z => q (by rw [z]; rfl)
    rw [if_neg k2] at hq
    rw [show (25 : Int32).toNatClampNeg = 25 from rfl, up_row]
    exact hq
theorem l_driven_509 (h : mN I F S) {s : Nat} (hs : s < 6) (st : Int32) {k : Nat} (hk : k < 3) (hst : k = 2 → st ≠ 0) (r0 : Nat → Int32) : ∀ (d f : Nat) (r : Nat → Int32), f + d = F → Q (.inl (some (.int (nI k)))) (m_row I 509 (endM k (rep (stepM r0 k (moreM (I (77 + s) 0) (I (77 + s) 1) st k)) d f r))) T → t_M_driven_509_19 E (m_row I 509 r) T Q (nI s) st (nI k) (bits r0 F) (nI f)
  | 0, f, r, hf, hq => by
    have h2 : mN (m_row I 509 r) F S := h
    have := h.2.1
    unfold t_M_driven_509_19
    rw [h2.1]
    refine ⟨fun _ => ⟨fun q => ?_, fun q => ⟨fun q2 => ?_, fun q2 => ?_⟩⟩, fun q => absurd (nI_le (by omega) (by omega)) q⟩
    · have k0 : k = 0 := (nI_eq (by omega) (by omega)).mp q
      subst k0
      exact l_end_509 0 (by omega) r hq
    · have k1 : k = 1 := (nI_eq (b := 1) (by omega) (by omega)).mp q2
      subst k1
      exact l_end_509 1 (by omega) r hq
    · have k2 : k = 2 := by
        have a1 : k ≠ 0 := fun z => q (by rw [z]; rfl)
        have a2 : k ≠ 1 := fun z => q2 (by rw [z]; rfl)
        omega
      subst k2
      exact l_end_509 2 (by omega) r hq
  | d + 1, f, r, hf, hq => by
    have h2 : mN (m_row I 509 r) F S := h
    have h8 := h.2.1
    have e1 : ∀ (s : Nat → Int32) (j : Nat), (m_row I 509 s) 509 j = s j := fun _ _ => rfl
    have e7 : (m_row I 509 r) (77 + s) = I (77 + s) := m_row_ne (by omega)
    have hb := bits_has r0 h8 (f := f) (by omega)
    rw [rep] at hq
    have next : ∀ r1, stepM r0 k (moreM (I (77 + s) 0) (I (77 + s) 1) st k) f r = r1 → t_M_driven_509_97 E (m_row I 509 r1) T Q (nI s) st (nI k) (bits r0 F) (nI f) := by
      intro r1 hr1
      unfold t_M_driven_509_97
      rw [nI_1]
      rw [hr1] at hq
      exact s_M_driven_509_19 (l_driven_509 h hs st hk hst r0 d (f + 1) r1 (by omega) hq)
    have body : ∀ m, r0 f ≠ -1 → moreM (I (77 + s) 0) (I (77 + s) 1) st k = m → t_M_driven_509_60 E (m_row I 509 r) T Q (nI s) st (nI k) (bits r0 F) (nI f) (nI f) m := by
      intro m hn hm
      unfold t_M_driven_509_60
      refine p_tires_509 (by omega) m ?_
      rw [row_row]
      change (nI k = 1 → _) ∧ (¬ nI k = 1 → _)
      have er : upd ((m_row I 509 r) 509) (16 + f) (if (m_row I 509 r) 509 (16 + f) + m ≤ 999 then (m_row I 509 r) 509 (16 + f) + m else 999) = tireM m f r := rfl
      rw [er]
      refine ⟨fun q => ?_, fun q => ?_⟩
      · have k1 : k = 1 := (nI_eq (b := 1) (by omega) (by omega)).mp q
        rw [z8, z0]
        refine ⟨gix (by omega) (by omega), ?_⟩
        rw [nI_clamp (show 8 + f < 2 ^ 31 by omega), nI_clamp (show f < 2 ^ 31 by omega), e1]
        refine p_more _ _ ?_
        change (¬ nI (8 + f) < 0 ∧ 8 + f < 29) ∧ (¬ nI (8 + f) < 0 ∧ 8 + f < 29) ∧ _
        refine ⟨⟨nI_pos (by omega), by omega⟩, ⟨nI_pos (by omega), by omega⟩, ?_⟩
        rw [up_row]
        have et : upd (tireM m f r) (8 + f) (if 0 ≤ tireM m f r (8 + f) - 3 then tireM m f r (8 + f) - 3 else 0) = tgtM f (tireM m f r) := rfl
        rw [et, e1]
        unfold t_M_driven_509_96
        refine ⟨fun q2 => ⟨gix (by omega) (by omega), ?_⟩, fun q2 => ⟨⟨nI_pos (by omega), by omega⟩, gix (by omega) (by omega), ?_⟩⟩
        · rw [nI_clamp (by omega), up_row]
          exact next _ (by unfold stepM plcM; rw [if_neg hn, if_pos k1, hm, if_pos q2])
        · rw [nI_clamp (by omega), e1, up_row]
          exact next _ (by unfold stepM plcM; rw [if_neg hn, if_pos k1, hm, if_neg q2])
      · have k1 : k ≠ 1 := fun z => q (by rw [z]; rfl)
        exact next _ (by unfold stepM; rw [if_neg hn, if_neg k1, hm])
    unfold t_M_driven_509_19
    rw [h2.1]
    refine ⟨fun q => absurd q (nI_ge (by omega) (by omega)), fun _ => ?_⟩
    refine p_has _ _ ?_
    by_cases q : r0 f = -1
    · rw [if_neg (fun z => hb.mp z q)]
      exact ⟨fun _ => next r (by unfold stepM; rw [if_pos q]), fun q2 => absurd rfl q2⟩
    · rw [if_pos (hb.mpr q)]
      refine ⟨fun q2 => absurd q2 (by decide), fun _ => ⟨fun q2 => ?_, fun q2 => ⟨fun q3 => ?_, fun q3 => ?_⟩⟩⟩
      · have k0 : k = 0 := (nI_eq (by omega) (by omega)).mp q2
        exact body 2 q (by unfold moreM; rw [if_pos k0])
      · have k1 : k = 1 := (nI_eq (b := 1) (by omega) (by omega)).mp q3
        exact body 5 q (by unfold moreM; rw [if_neg (by omega), if_pos k1])
      · have k2 : k = 2 := by
          have a1 : k ≠ 0 := fun z => q2 (by rw [z]; rfl)
          have a2 : k ≠ 1 := fun z => q3 (by rw [z]; rfl)
          omega
        rw [nI_clamp (show s < 2 ^ 31 by omega), e7]
        refine ⟨⟨nI_pos (by omega), hs⟩, hst k2, ⟨nI_pos (by omega), hs⟩, ?_⟩
        exact body _ q (by unfold moreM; rw [if_neg (by omega), if_neg (by omega)])
/-- a stage is driven: what it came to, and the row behind it -/
theorem p_driven_509 (h : mN I F S) (hr : lawR I n cd) (hp : plc (I 509) F) {s : Nat} (hs : s < 6) (hst : outN (I (77 + s) 0) (I (77 + s) 1) (I 50 2) ((sidesM_509 I F n cd).1 + (sidesM_509 I F n cd).2) (ab ((sidesM_509 I F n cd).1 - (sidesM_509 I F n cd).2)) = 2 → (sidesM_509 I F n cd).1 + (sidesM_509 I F n cd).2 ≠ 0)
    (hq : ∀ J, FR [425, 426] I J → Q (.inl (some (.int (outc (I (77 + s) 0) (I (77 + s) 1) (I 50 2) ((sidesM_509 I F n cd).1 + (sidesM_509 I F n cd).2) (ab ((sidesM_509 I F n cd).1 - (sidesM_509 I F n cd).2)))))) (m_row J 509 (driveM (I (77 + s) 0) (I (77 + s) 1) (I 50 2) ((sidesM_509 I F n cd).1 + (sidesM_509 I F n cd).2) (ab ((sidesM_509 I F n cd).1 - (sidesM_509 I F n cd).2)) F (I 509))) T) : ev E 155 0 [some (.ref 46), some (.ref 509), some (.int (nI s)), none, none, none, none] [] I T Q := by
  refine s_M_driven_509_0 ?_
  unfold t_M_driven_509_0
  refine p_pulls_509 h hr hp 1 true ⟨fun q => absurd q (by decide), fun q => by cases q⟩ (fun J hJ => ?_)
  rw [if_pos rfl]
  have er : J 509 = I 509 := hJ 509 (by decide)
  have hp2 : plc (J 509) F := by rw [er]; exact hp
  refine p_tiltOf_509 (h.keep (by decide) hJ) (hr.keep lawL_m hJ) hp2 (fun K hK => ?_)
  have hF : FR [425, 426] I K := hJ.trans hK
  have ek : K 509 = I 509 := hF 509 (by decide)
  have e7 : K (77 + s) = I (77 + s) := hF (77 + s) (by simp; omega)
  have e5 : K 50 = I 50 := hF 50 (by decide)
  have h2 := h.keep (by decide) hF
  have es : sidesM_509 J F n cd = sidesM_509 I F n cd := by
    unfold sidesM_509 sides
    rw [er]
    refine rep_congr F 0 _ (fun g _ hg b => ?_)
    unfold sd foM
    have h8 := h.2.1
    rw [hJ (61 + g) (by simp; omega), er]
  rw [es]
  refine p_comesBy hs _ _ ?_
  rw [e7, e5]
  refine p_teamOf_509 h2 ?_
  have hq := hq K hF
  unfold driveM at hq
  rw [outc_N] at hq ⊢
  have hk := outN_lt (I (77 + s) 0) (I (77 + s) 1) (I 50 2) ((sidesM_509 I F n cd).1 + (sidesM_509 I F n cd).2) (ab ((sidesM_509 I F n cd).1 - (sidesM_509 I F n cd).2))
  have := l_driven_509 (E := E) (Q := Q) (T := T) h2 hs _ hk hst (K 509) F 0 (K 509) (by omega) (by rw [e7, ek]; exact hq)
  rw [row_self] at this
  exact this
end DRM
