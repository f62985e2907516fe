/-! ===== contracts: the sides' FORCES ===== -/
def sd (r fo : Nat → Int32) (f : Nat) (a : Int32 × Int32) : Int32 × Int32 := if r f = -1 then a else if (r f &&& 1) = 0 then (a.1 + fo f, a.2) else (a.1, a.2 + fo f)
/-- FORCES of both sides -/
def sides (r fo : Nat → Int32) (F : Nat) : Int32 × Int32 := rep (sd r fo) F 0 (0, 0)
def pl (b : Bool) (r fo : Nat → Int32) (f : Nat) (n : Int32) : Int32 := if r f = -1 then n else if b = true ∨ (r f &&& 1) = 0 then n + fo f else n + (0 - fo f)
/-- where a feeling stands -/
def plc (r : Nat → Int32) (F : Nat) : Prop := ∀ f, f < F → r f = -1 ∨ ∃ p, p < 4 ∧ r f = nI p
theorem even4 : ∀ p : Fin 4, ((nI p.val - nI p.val / 2 * 2) = 0 ↔ (nI p.val &&& 1) = 0) := by decide +kernel
theorem i_a1 (a b x : Int32) : (a + x) + b = (a + b) + x := by rw [Int32.add_assoc, Int32.add_comm x b, ← Int32.add_assoc]
theorem i_a2 (a b x : Int32) : a + (b + x) = (a + b) + x := (Int32.add_assoc a b x).symm
theorem i_s1 (a b x : Int32) : (a + x) - b = (a - b) + x := by rw [Int32.sub_eq_add_neg, Int32.sub_eq_add_neg, i_a1]
theorem i_s2 (a b x : Int32) : a - (b + x) = (a - b) + (0 - x) := by
  rw [Int32.sub_eq_add_neg, Int32.sub_eq_add_neg, Int32.sub_eq_add_neg, Int32.neg_add, Int32.zero_add, Int32.sub_eq_add_neg, Int32.add_assoc]
theorem pl_true (r fo : Nat → Int32) : ∀ (d f : Nat) (a : Int32 × Int32), rep (pl true r fo) d f (a.1 + a.2) = (rep (sd r fo) d f a).1 + (rep (sd r fo) d f a).2
  | 0, _, _ => rfl
  | d + 1, f, a => by
    rw [rep, rep, ← pl_true r fo d (f + 1) (sd r fo f a)]
    congr 1
    unfold pl sd
    by_cases h : r f = -1
    · rw [if_pos h, if_pos h]
    · rw [if_neg h, if_neg h, if_pos (Or.inl rfl)]
      by_cases h2 : (r f &&& 1) = 0
      · rw [if_pos h2]; exact (i_a1 _ _ _).symm
      · rw [if_neg h2]; exact (i_a2 _ _ _).symm
theorem pl_false (r fo : Nat → Int32) : ∀ (d f : Nat) (a : Int32 × Int32), rep (pl false r fo) d f (a.1 - a.2) = (rep (sd r fo) d f a).1 - (rep (sd r fo) d f a).2
  | 0, _, _ => rfl
  | d + 1, f, a => by
    rw [rep, rep, ← pl_false r fo d (f + 1) (sd r fo f a)]
    congr 1
    unfold pl sd
    by_cases h : r f = -1
    · rw [if_pos h, if_pos h]
    · rw [if_neg h, if_neg h]
      by_cases h2 : (r f &&& 1) = 0
      · rw [if_pos h2, if_pos (Or.inr h2)]; exact (i_s1 _ _ _).symm
      · rw [if_neg h2, if_neg (by rintro (q | q); exact absurd q (by decide); exact h2 q)]; exact (i_s2 _ _ _).symm
/-- FORCE of a feeling where it stands: by the class's cells -/
def foC (I : II) (r n : Nat) (cd : Nat → Nat × Int32) (z : Int32) (f : Nat) : Int32 := lawF n cd (vf (I 4 f) (I 5 f) (I r (8 + f)) (I r (16 + f)) (I r f) (I r 25) z (I r 24))
/-- by the reference's -/
def foM (I : II) (r n : Nat) (cd : Nat → Nat × Int32) (z : Int32) (f : Nat) : Int32 := lawF n cd (vf (I (61 + f) 0) (I (61 + f) 1) (I r (8 + f)) (I r (16 + f)) (I r f) (I r 25) z (I r 24))
section SIDES
variable {E : MEnv} {I : II} {T : TT} {Q : QQ} {F S n : Nat} {cd : Nat → Nat × Int32}
theorem lawL_28 : lawL [18, 19, 28] := ⟨by decide, by decide, by decide, fun k hk => by simp; omega⟩
theorem l_weigh_28 (h : hN I F S) (hr : lawR I n cd) (z : Int32) : ∀ (d f : Nat) (J : II), FR [18, 19, 28] I J → f + d = F → (∀ I', FR [18, 19, 28] I I' → (I' 28 3, I' 28 4) = rep (sd (I 29) (foC I 29 n cd z)) d f (J 28 3, J 28 4) → Q (.inl none) I' T) → t_Coach_weigh_28_11 E J T Q z (nI f)
  | 0, f, J, hJ, hf, hq => by
    have h2 := h.keep (by decide) hJ
    have := h.2.1
    unfold t_Coach_weigh_28_11
    rw [h2.1]
    exact ⟨fun _ => hq J hJ rfl, fun q => absurd (nI_le (by omega) (by omega)) q⟩
  | d + 1, f, J, hJ, hf, hq => by
    have h2 := h.keep (by decide) hJ
    have h8 := h.2.1
    have hr2 := hr.keep lawL_28 hJ
    have e4 : J 4 = I 4 := hJ 4 (by decide)
    have e5 : J 5 = I 5 := hJ 5 (by decide)
    have er : J 29 = I 29 := hJ 29 (by decide)
    unfold t_Coach_weigh_28_11 t_Coach_weigh_28_46
    rw [h2.1]
    refine ⟨fun q => absurd q (nI_ge (by omega) (by omega)), fun _ => ?_⟩
    refine p_placeOf_28 h2 (by omega) ?_
    rw [if_pos (by omega), er]
    rw [rep] at hq
    refine ⟨fun q => ?_, fun q => ?_⟩
    · rw [nI_1]
      refine s_Coach_weigh_28_11 (l_weigh_28 h hr z d (f + 1) J hJ (by omega) ?_)
      have e9 : sd (I 29) (foC I 29 n cd z) f (J 28 3, J 28 4) = (J 28 3, J 28 4) := by unfold sd; rw [if_pos q]
      rw [e9] at hq
      exact hq
    · refine p_forceOf_28 h2 hr2 (by omega) _ _ (fun K hK => ?_)
      have ef : lawF n cd (vf (if f < F then J 4 f else 0) (if f < F then J 5 f else 0) (if f < F then J 29 (8 + f) else 0) (if f < F then J 29 (16 + f) else 0) (I 29 f) (J 29 25) z (J 29 24)) = foC I 29 n cd z f := by
        rw [if_pos (by omega), if_pos (by omega), if_pos (by omega), if_pos (by omega), e4, e5, er]
        rfl
      rw [ef]
      have kc : K 28 = J 28 := hK 28 (by decide)
      have hK2 : FR [18, 19, 28] I K := hJ.trans (hK.mono (by decide))
      refine ⟨fun q2 => ?_, fun q2 => ?_⟩
      · rw [nI_1, kc]
        refine s_Coach_weigh_28_11 (l_weigh_28 h hr z d (f + 1) _ (hK2.trans (FR.up (by decide) _ _)) (by omega) (fun I' a1 a2 => hq I' a1 ?_))
        rw [a2]
        have e9 : sd (I 29) (foC I 29 n cd z) f (J 28 3, J 28 4) = (J 28 3 + foC I 29 n cd z f, J 28 4) := by unfold sd; rw [if_neg q, if_pos q2]
        rw [e9]
        have e3 : (m_up K 28 3 (J 28 3 + foC I 29 n cd z f)) 28 3 = J 28 3 + foC I 29 n cd z f := rfl
        have e4 : (m_up K 28 3 (J 28 3 + foC I 29 n cd z f)) 28 4 = K 28 4 := rfl
        rw [e3, e4, kc]
      · rw [nI_1, kc]
        refine s_Coach_weigh_28_11 (l_weigh_28 h hr z d (f + 1) _ (hK2.trans (FR.up (by decide) _ _)) (by omega) (fun I' a1 a2 => hq I' a1 ?_))
        rw [a2]
        have e9 : sd (I 29) (foC I 29 n cd z) f (J 28 3, J 28 4) = (J 28 3, J 28 4 + foC I 29 n cd z f) := by unfold sd; rw [if_neg q, if_neg q2]
        rw [e9]
        have e3 : (m_up K 28 4 (J 28 4 + foC I 29 n cd z f)) 28 3 = K 28 3 := rfl
        have e4 : (m_up K 28 4 (J 28 4 + foC I 29 n cd z f)) 28 4 = J 28 4 + foC I 29 n cd z f := rfl
        rw [e3, e4, kc]
/-- what the class weighs -/
abbrev sidesC_28 (I : II) (F n : Nat) (cd : Nat → Nat × Int32) : Int32 × Int32 := sides (I 29) (foC I 29 n cd (ones (bits (I 29) F))) F
theorem p_weigh_28 (h : hN I F S) (hr : lawR I n cd) (hq : ∀ I', FR [18, 19, 28] I I' → (I' 28 3, I' 28 4) = sidesC_28 I F n cd → Q (.inl none) I' T) : ev E 121 0 [some (.ref 28), none, none, none, none] [] I T Q := by
  refine s_Coach_weigh_28_0 ?_
  unfold t_Coach_weigh_28_0
  refine p_teamSize_28 h ?_
  have hF : FR [18, 19, 28] I (m_up (m_up I 28 3 0) 28 4 0) := (FR.up (by decide) _ _).trans (FR.up (by decide) _ _)
  exact l_weigh_28 h hr _ F 0 _ hF (by omega) hq
theorem lawL_30 : lawL [18, 19, 30] := ⟨by decide, by decide, by decide, fun k hk => by simp; omega⟩
theorem l_weigh_30 (h : hN I F S) (hr : lawR I n cd) (z : Int32) : ∀ (d f : Nat) (J : II), FR [18, 19, 30] I J → f + d = F → (∀ I', FR [18, 19, 30] I I' → (I' 30 3, I' 30 4) = rep (sd (I 31) (foC I 31 n cd z)) d f (J 30 3, J 30 4) → Q (.inl none) I' T) → t_Coach_weigh_30_11 E J T Q z (nI f)
  | 0, f, J, hJ, hf, hq => by
    have h2 := h.keep (by decide) hJ
    have := h.2.1
    unfold t_Coach_weigh_30_11
    rw [h2.1]
    exact ⟨fun _ => hq J hJ rfl, fun q => absurd (nI_le (by omega) (by omega)) q⟩
  | d + 1, f, J, hJ, hf, hq => by
    have h2 := h.keep (by decide) hJ
    have h8 := h.2.1
    have hr2 := hr.keep lawL_30 hJ
    have e4 : J 4 = I 4 := hJ 4 (by decide)
    have e5 : J 5 = I 5 := hJ 5 (by decide)
    have er : J 31 = I 31 := hJ 31 (by decide)
    unfold t_Coach_weigh_30_11 t_Coach_weigh_30_46
    rw [h2.1]
    refine ⟨fun q => absurd q (nI_ge (by omega) (by omega)), fun _ => ?_⟩
    refine p_placeOf_30 h2 (by omega) ?_
    rw [if_pos (by omega), er]
    rw [rep] at hq
    refine ⟨fun q => ?_, fun q => ?_⟩
    · rw [nI_1]
      refine s_Coach_weigh_30_11 (l_weigh_30 h hr z d (f + 1) J hJ (by omega) ?_)
      have e9 : sd (I 31) (foC I 31 n cd z) f (J 30 3, J 30 4) = (J 30 3, J 30 4) := by unfold sd; rw [if_pos q]
      rw [e9] at hq
      exact hq
    · refine p_forceOf_30 h2 hr2 (by omega) _ _ (fun K hK => ?_)
      have ef : lawF n cd (vf (if f < F then J 4 f else 0) (if f < F then J 5 f else 0) (if f < F then J 31 (8 + f) else 0) (if f < F then J 31 (16 + f) else 0) (I 31 f) (J 31 25) z (J 31 24)) = foC I 31 n cd z f := by
        rw [if_pos (by omega), if_pos (by omega), if_pos (by omega), if_pos (by omega), e4, e5, er]
        rfl
      rw [ef]
      have kc : K 30 = J 30 := hK 30 (by decide)
      have hK2 : FR [18, 19, 30] I K := hJ.trans (hK.mono (by decide))
      refine ⟨fun q2 => ?_, fun q2 => ?_⟩
      · rw [nI_1, kc]
        refine s_Coach_weigh_30_11 (l_weigh_30 h hr z d (f + 1) _ (hK2.trans (FR.up (by decide) _ _)) (by omega) (fun I' a1 a2 => hq I' a1 ?_))
        rw [a2]
        have e9 : sd (I 31) (foC I 31 n cd z) f (J 30 3, J 30 4) = (J 30 3 + foC I 31 n cd z f, J 30 4) := by unfold sd; rw [if_neg q, if_pos q2]
        rw [e9]
        have e3 : (m_up K 30 3 (J 30 3 + foC I 31 n cd z f)) 30 3 = J 30 3 + foC I 31 n cd z f := rfl
        have e4 : (m_up K 30 3 (J 30 3 + foC I 31 n cd z f)) 30 4 = K 30 4 := rfl
        rw [e3, e4, kc]
      · rw [nI_1, kc]
        refine s_Coach_weigh_30_11 (l_weigh_30 h hr z d (f + 1) _ (hK2.trans (FR.up (by decide) _ _)) (by omega) (fun I' a1 a2 => hq I' a1 ?_))
        rw [a2]
        have e9 : sd (I 31) (foC I 31 n cd z) f (J 30 3, J 30 4) = (J 30 3, J 30 4 + foC I 31 n cd z f) := by unfold sd; rw [if_neg q, if_neg q2]
        rw [e9]
        have e3 : (m_up K 30 4 (J 30 4 + foC I 31 n cd z f)) 30 3 = K 30 3 := rfl
        have e4 : (m_up K 30 4 (J 30 4 + foC I 31 n cd z f)) 30 4 = J 30 4 + foC I 31 n cd z f := rfl
        rw [e3, e4, kc]
/-- what the class weighs -/
abbrev sidesC_30 (I : II) (F n : Nat) (cd : Nat → Nat × Int32) : Int32 × Int32 := sides (I 31) (foC I 31 n cd (ones (bits (I 31) F))) F
theorem p_weigh_30 (h : hN I F S) (hr : lawR I n cd) (hq : ∀ I', FR [18, 19, 30] I I' → (I' 30 3, I' 30 4) = sidesC_30 I F n cd → Q (.inl none) I' T) : ev E 121 0 [some (.ref 30), none, none, none, none] [] I T Q := by
  refine s_Coach_weigh_30_0 ?_
  unfold t_Coach_weigh_30_0
  refine p_teamSize_30 h ?_
  have hF : FR [18, 19, 30] I (m_up (m_up I 30 3 0) 30 4 0) := (FR.up (by decide) _ _).trans (FR.up (by decide) _ _)
  exact l_weigh_30 h hr _ F 0 _ hF (by omega) hq
theorem l_pulls_508 (h : mN I F S) (hr : lawR I n cd) (hp : plc (I 508) F) (x z : Int32) (b : Bool) (hx : x = 0 ↔ b = false) : ∀ (d f : Nat) (a : Int32) (J : II), FR [425, 426] I J → f + d = F → (∀ I', FR [425, 426] I I' → Q (.inl (some (.int (rep (pl b (I 508) (foM I 508 n cd z)) d f a)))) I' T) → t_M_pulls_508_9 E J T Q x a z (nI f)
  | 0, f, a, J, hJ, hf, hq => by
    have h2 := h.keep (by decide) hJ
    have := h.2.1
    unfold t_M_pulls_508_9
    rw [h2.1]
    exact ⟨fun _ => hq J hJ, fun q => absurd (nI_le (by omega) (by omega)) q⟩
  | d + 1, f, a, J, hJ, hf, hq => by
    have h2 := h.keep (by decide) hJ
    have h8 := h.2.1
    have hr2 := hr.keep lawL_m hJ
    have er : J 508 = I 508 := hJ 508 (by decide)
    have e6 : J (61 + f) = I (61 + f) := hJ (61 + f) (by simp; omega)
    have ef : lawF n cd (vf (J (61 + f) 0) (J (61 + f) 1) (J 508 (8 + f)) (J 508 (16 + f)) (I 508 f) (J 508 25) z (J 508 24)) = foM I 508 n cd z f := by rw [e6, er]; rfl
    unfold t_M_pulls_508_9
    rw [h2.1]
    refine ⟨fun q => absurd q (nI_ge (by omega) (by omega)), fun _ => ?_⟩
    rw [z0]
    refine ⟨gix (by omega) (by omega), ?_⟩
    rw [nI_clamp (by omega), er]
    rw [rep] at hq
    have next : ∀ (v : Int32) (K : II), FR [425, 426] J K → pl b (I 508) (foM I 508 n cd z) f a = v → t_M_pulls_508_48 E K T Q x v z (nI f) := by
      intro v K hK hv
      unfold t_M_pulls_508_48
      rw [nI_1]
      rw [hv] at hq
      exact s_M_pulls_508_9 (l_pulls_508 h hr hp x z b hx d (f + 1) v K (hJ.trans hK) (by omega) hq)
    refine ⟨fun q => ?_, fun q => ?_⟩
    · exact next a J (FR.refl _ _) (by unfold pl; rw [if_pos q])
    · obtain ⟨p, hp4, ep⟩ := (hp f (by omega)).resolve_left q
      have ev4 := even4 ⟨p, hp4⟩
      simp only at ev4
      rw [← ep] at ev4
      refine ⟨fun q2 => ⟨fun q3 => ?_, fun q3 => ?_⟩, fun q2 => ?_⟩
      · unfold t_M_pulls_508_32 t_M_pulls_508_46
        refine p_mforceOf_508 hr2 (by omega) _ _ (fun K hK => ?_)
        rw [ef]
        exact next _ K hK (by unfold pl; rw [if_neg q, if_pos (Or.inr (ev4.mp q3))])
      · refine p_mforceOf_508 hr2 (by omega) _ _ (fun K hK => ?_)
        rw [ef]
        have hb : b = false := hx.mp q2
        exact next _ K hK (by
          unfold pl
          rw [if_neg q, if_neg (by
            rintro (q4 | q4)
            · rw [hb] at q4; cases q4
            · exact q3 (ev4.mpr q4))])
      · unfold t_M_pulls_508_32 t_M_pulls_508_46
        refine p_mforceOf_508 hr2 (by omega) _ _ (fun K hK => ?_)
        rw [ef]
        have hb : b = true := by
          cases b with
          | true => rfl
          | false => exact absurd (hx.mpr rfl) q2
        exact next _ K hK (by unfold pl; rw [if_neg q, if_pos (Or.inl hb)])
abbrev sidesM_508 (I : II) (F n : Nat) (cd : Nat → Nat × Int32) : Int32 × Int32 := sides (I 508) (foM I 508 n cd (ones (bits (I 508) F))) F
theorem p_pulls_508 (h : mN I F S) (hr : lawR I n cd) (hp : plc (I 508) F) (x : Int32) (b : Bool) (hx : x = 0 ↔ b = false) (hq : ∀ I', FR [425, 426] I I' → Q (.inl (some (.int (if b = true then (sidesM_508 I F n cd).1 + (sidesM_508 I F n cd).2 else (sidesM_508 I F n cd).1 - (sidesM_508 I F n cd).2)))) I' T) : ev E 156 0 [some (.ref 46), some (.ref 508), some (.int x), none, none, none, none] [] I T Q := by
  refine s_M_pulls_508_0 ?_
  unfold t_M_pulls_508_0
  refine p_teamOf_508 h ?_
  refine p_ones _ ?_
  refine l_pulls_508 h hr hp x _ b hx F 0 0 I (FR.refl _ _) (by omega) (fun I' hI' => ?_)
  have := hq I' hI'
  cases b with
  | true =>
    rw [if_pos rfl] at this
    have e := pl_true (I 508) (foM I 508 n cd (ones (bits (I 508) F))) F 0 (0, 0)
    rw [show (((0 : Int32), (0 : Int32)).1 + ((0 : Int32), (0 : Int32)).2) = 0 from rfl] at e
    rw [e]
    exact this
  | false =>
    rw [if_neg (by decide)] at this
    have e := pl_false (I 508) (foM I 508 n cd (ones (bits (I 508) F))) F 0 (0, 0)
    rw [show (((0 : Int32), (0 : Int32)).1 - ((0 : Int32), (0 : Int32)).2) = 0 from rfl] at e
    rw [e]
    exact this
theorem l_pulls_509 (h : mN I F S) (hr : lawR I n cd) (hp : plc (I 509) F) (x z : Int32) (b : Bool) (hx : x = 0 ↔ b = false) : ∀ (d f : Nat) (a : Int32) (J : II), FR [425, 426] I J → f + d = F → (∀ I', FR [425, 426] I I' → Q (.inl (some (.int (rep (pl b (I 509) (foM I 509 n cd z)) d f a)))) I' T) → t_M_pulls_509_9 E J T Q x a z (nI f)
  | 0, f, a, J, hJ, hf, hq => by
    have h2 := h.keep (by decide) hJ
    have := h.2.1
    unfold t_M_pulls_509_9
    rw [h2.1]
    exact ⟨fun _ => hq J hJ, fun q => absurd (nI_le (by omega) (by omega)) q⟩
  | d + 1, f, a, J, hJ, hf, hq => by
    have h2 := h.keep (by decide) hJ
    have h8 := h.2.1
    have hr2 := hr.keep lawL_m hJ
    have er : J 509 = I 509 := hJ 509 (by decide)
    have e6 : J (61 + f) = I (61 + f) := hJ (61 + f) (by simp; omega)
    have ef : lawF n cd (vf (J (61 + f) 0) (J (61 + f) 1) (J 509 (8 + f)) (J 509 (16 + f)) (I 509 f) (J 509 25) z (J 509 24)) = foM I 509 n cd z f := by rw [e6, er]; rfl
    unfold t_M_pulls_509_9
    rw [h2.1]
    refine ⟨fun q => absurd q (nI_ge (by omega) (by omega)), fun _ => ?_⟩
    rw [z0]
    refine ⟨gix (by omega) (by omega), ?_⟩
    rw [nI_clamp (by omega), er]
    rw [rep] at hq
    have next : ∀ (v : Int32) (K : II), FR [425, 426] J K → pl b (I 509) (foM I 509 n cd z) f a = v → t_M_pulls_509_48 E K T Q x v z (nI f) := by
      intro v K hK hv
      unfold t_M_pulls_509_48
      rw [nI_1]
      rw [hv] at hq
      exact s_M_pulls_509_9 (l_pulls_509 h hr hp x z b hx d (f + 1) v K (hJ.trans hK) (by omega) hq)
    refine ⟨fun q => ?_, fun q => ?_⟩
    · exact next a J (FR.refl _ _) (by unfold pl; rw [if_pos q])
    · obtain ⟨p, hp4, ep⟩ := (hp f (by omega)).resolve_left q
      have ev4 := even4 ⟨p, hp4⟩
      simp only at ev4
      rw [← ep] at ev4
      refine ⟨fun q2 => ⟨fun q3 => ?_, fun q3 => ?_⟩, fun q2 => ?_⟩
      · unfold t_M_pulls_509_32 t_M_pulls_509_46
        refine p_mforceOf_509 hr2 (by omega) _ _ (fun K hK => ?_)
        rw [ef]
        exact next _ K hK (by unfold pl; rw [if_neg q, if_pos (Or.inr (ev4.mp q3))])
      · refine p_mforceOf_509 hr2 (by omega) _ _ (fun K hK => ?_)
        rw [ef]
        have hb : b = false := hx.mp q2
        exact next _ K hK (by
          unfold pl
          rw [if_neg q, if_neg (by
            rintro (q4 | q4)
            · rw [hb] at q4; cases q4
            · exact q3 (ev4.mpr q4))])
      · unfold t_M_pulls_509_32 t_M_pulls_509_46
        refine p_mforceOf_509 hr2 (by omega) _ _ (fun K hK => ?_)
        rw [ef]
        have hb : b = true := by
          cases b with
          | true => rfl
          | false => exact absurd (hx.mpr rfl) q2
        exact next _ K hK (by unfold pl; rw [if_neg q, if_pos (Or.inl hb)])
abbrev sidesM_509 (I : II) (F n : Nat) (cd : Nat → Nat × Int32) : Int32 × Int32 := sides (I 509) (foM I 509 n cd (ones (bits (I 509) F))) F
theorem p_pulls_509 (h : mN I F S) (hr : lawR I n cd) (hp : plc (I 509) F) (x : Int32) (b : Bool) (hx : x = 0 ↔ b = false) (hq : ∀ I', FR [425, 426] I I' → Q (.inl (some (.int (if b = true then (sidesM_509 I F n cd).1 + (sidesM_509 I F n cd).2 else (sidesM_509 I F n cd).1 - (sidesM_509 I F n cd).2)))) I' T) : ev E 156 0 [some (.ref 46), some (.ref 509), some (.int x), none, none, none, none] [] I T Q := by
  refine s_M_pulls_509_0 ?_
  unfold t_M_pulls_509_0
  refine p_teamOf_509 h ?_
  refine p_ones _ ?_
  refine l_pulls_509 h hr hp x _ b hx F 0 0 I (FR.refl _ _) (by omega) (fun I' hI' => ?_)
  have := hq I' hI'
  cases b with
  | true =>
    rw [if_pos rfl] at this
    have e := pl_true (I 509) (foM I 509 n cd (ones (bits (I 509) F))) F 0 (0, 0)
    rw [show (((0 : Int32), (0 : Int32)).1 + ((0 : Int32), (0 : Int32)).2) = 0 from rfl] at e
    rw [e]
    exact this
  | false =>
    rw [if_neg (by decide)] at this
    have e := pl_false (I 509) (foM I 509 n cd (ones (bits (I 509) F))) F 0 (0, 0)
    rw [show (((0 : Int32), (0 : Int32)).1 - ((0 : Int32), (0 : Int32)).2) = 0 from rfl] at e
    rw [e]
    exact this
end SIDES
