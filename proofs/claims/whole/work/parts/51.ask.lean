/-! ===== what both sides' askings answer, by one heap that they leave ===== -/
theorem Core.q {B : II} {F S n : Nat} {cd : Nat → Nat × Int32} (hI : Core B F S n cd) {j : Nat} (hj : j < 26) : B 508 j = B 29 j := hI.2.2.2.2.2.2.1.1 j hj
theorem Core.F8 {B : II} {F S n : Nat} {cd : Nat → Nat × Int32} (hI : Core B F S n cd) : F ≤ 8 := hI.1.2.1
theorem Core.S6 {B : II} {F S n : Nat} {cd : Nat → Nat × Int32} (hI : Core B F S n cd) : S ≤ 6 := hI.1.2.2.2
theorem Core.lr {B : II} {F S n : Nat} {cd : Nat → Nat × Int32} (hI : Core B F S n cd) : lawR B n cd := hI.2.2.1
theorem Core.fe {B : II} {F S n : Nat} {cd : Nat → Nat × Int32} (hI : Core B F S n cd) {f : Nat} (hf : f < F) : B (61 + f) 0 = B 4 f ∧ B (61 + f) 1 = B 5 f ∧ B 84 f = B 6 f ∧ (∃ p, p ≤ 20 ∧ B 4 f = nI p) ∧ (∃ c, c ≤ 9 ∧ B 5 f = nI c) ∧ ∃ m, m < 256 ∧ B 6 f = nI m := hI.2.2.2.1 f hf
theorem Core.st {B : II} {F S n : Nat} {cd : Nat → Nat × Int32} (hI : Core B F S n cd) {s : Nat} (hs : s < S) : B (77 + s) 0 = B 7 s ∧ B (77 + s) 1 = B 8 s ∧ (∃ l, 1 ≤ l ∧ l ≤ 60 ∧ B 7 s = nI l) ∧ ∃ t, t ≤ 9 ∧ B 8 s = nI t := hI.2.2.2.2.1 s hs
theorem Core.rv {B : II} {F S n : Nat} {cd : Nat → Nat × Int32} (hI : Core B F S n cd) : rowV (B 29) F S := hI.2.2.2.2.2.2.2
theorem Core.br {B : II} {F S n : Nat} {cd : Nat → Nat × Int32} (hI : Core B F S n cd) : B 50 2 = B 3 7 := hI.2.2.2.2.2.1
theorem Core.mplc {B : II} {F S n : Nat} {cd : Nat → Nat × Int32} (hI : Core B F S n cd) : plc (B 508) F := fun f hf => by
  have := hI.F8
  rw [hI.q (by omega)]
  exact hI.rv.1 f hf
section ASK
variable {E : MEnv} {B I : II} {T : TT} {Q : QQ} {F S n : Nat} {cd : Nat → Nat × Int32}
theorem q_place (hI : Core B F S n cd) (h : ro B I) {f : Nat} (hf : f < F) (hq : Q (.inl (some (.int (B 29 f)))) I T) : ev E 109 0 [some (.ref 28), some (.int (nI f))] [] I T Q := by
  have h8 := hI.F8
  have h6 := hI.S6
  refine p_placeOf_28 (hI.1.ro h) (by omega) ?_
  rw [if_pos hf, h.cell (c := 29) (by decide)]
  exact hq
theorem q_tight (hI : Core B F S n cd) (h : ro B I) {f : Nat} (hf : f < F) (hq : Q (.inl (some (.int (B 29 (8 + f))))) I T) : ev E 113 0 [some (.ref 28), some (.int (nI f))] [] I T Q := by
  have h8 := hI.F8
  have h6 := hI.S6
  refine p_tightOf_28 (hI.1.ro h) (by omega) ?_
  rw [if_pos hf, h.cell (c := 29) (by decide)]
  exact hq
theorem q_tired (hI : Core B F S n cd) (h : ro B I) {f : Nat} (hf : f < F) (hq : Q (.inl (some (.int (B 29 (16 + f))))) I T) : ev E 127 0 [some (.ref 28), some (.int (nI f))] [] I T Q := by
  have h8 := hI.F8
  have h6 := hI.S6
  refine p_tiredOf_28 (hI.1.ro h) (by omega) ?_
  rw [if_pos hf, h.cell (c := 29) (by decide)]
  exact hq
theorem q_pull (hI : Core B F S n cd) (h : ro B I) {f : Nat} (hf : f < F) (hq : Q (.inl (some (.int (B 4 f)))) I T) : ev E 125 0 [some (.ref 3), some (.int (nI f))] [] I T Q := by
  have h8 := hI.F8
  have h6 := hI.S6
  refine p_pullOf (hI.1.ro h) (by omega) ?_
  rw [if_pos hf, h.cell (c := 4) (by decide)]
  exact hq
theorem q_calm (hI : Core B F S n cd) (h : ro B I) {f : Nat} (hf : f < F) (hq : Q (.inl (some (.int (B 5 f)))) I T) : ev E 126 0 [some (.ref 3), some (.int (nI f))] [] I T Q := by
  have h8 := hI.F8
  have h6 := hI.S6
  refine p_calmOf (hI.1.ro h) (by omega) ?_
  rw [if_pos hf, h.cell (c := 5) (by decide)]
  exact hq
theorem q_foes (hI : Core B F S n cd) (h : ro B I) {f : Nat} (hf : f < F) (hq : Q (.inl (some (.int (B 6 f)))) I T) : ev E 111 0 [some (.ref 3), some (.int (nI f))] [] I T Q := by
  have h8 := hI.F8
  have h6 := hI.S6
  refine p_foesOf (hI.1.ro h) (by omega) ?_
  rw [if_pos hf, h.cell (c := 6) (by decide)]
  exact hq
theorem q_len (hI : Core B F S n cd) (h : ro B I) {f : Nat} (hf : f < S) (hq : Q (.inl (some (.int (B 7 f)))) I T) : ev E 135 0 [some (.ref 3), some (.int (nI f))] [] I T Q := by
  have h8 := hI.F8
  have h6 := hI.S6
  refine p_lengthOf (hI.1.ro h) (by omega) ?_
  rw [if_pos hf, h.cell (c := 7) (by decide)]
  exact hq
theorem q_turn (hI : Core B F S n cd) (h : ro B I) {f : Nat} (hf : f < S) (hq : Q (.inl (some (.int (B 8 f)))) I T) : ev E 137 0 [some (.ref 3), some (.int (nI f))] [] I T Q := by
  have h8 := hI.F8
  have h6 := hI.S6
  refine p_turnOf (hI.1.ro h) (by omega) ?_
  rw [if_pos hf, h.cell (c := 8) (by decide)]
  exact hq
theorem q_least (hI : Core B F S n cd) (h : ro B I) {f : Nat} (hf : f < S) (hq : Q (.inl (some (.int (B 7 f / 3 + 1)))) I T) : ev E 134 0 [some (.ref 3), some (.int (nI f))] [] I T Q := by
  have h6 := hI.S6
  refine p_leastStrength (hI.1.ro h) (by omega) ?_
  rw [if_pos hf, h.cell (c := 7) (by decide)]
  exact hq
theorem q_has (hI : Core B F S n cd) (h : ro B I) {f : Nat} (hf : f < F) (hq : Q (.inl (some (.int (if B 29 f = -1 then 0 else 1)))) I T) : ev E 108 0 [some (.ref 28), some (.int (nI f))] [] I T Q := by
  have h8 := hI.F8
  refine p_hasPlace_28 (hI.1.ro h) (by omega) ?_
  rw [h.cell (c := 29) (by decide)]
  by_cases c : B 29 f = -1
  · rw [if_neg (fun z => z.2 c)]
    rw [if_pos c] at hq
    exact hq
  · rw [if_pos ⟨hf, c⟩]
    rw [if_neg c] at hq
    exact hq
theorem q_behind (h : ro B I) (hq : Q (.inl (some (.int (B 29 25)))) I T) : ev E 115 0 [some (.ref 28)] [] I T Q := by
  refine p_behind_28 ?_
  rw [h.cell (c := 29) (by decide)]
  exact hq
theorem q_day (h : ro B I) (hq : Q (.inl (some (.int (B 29 24)))) I T) : ev E 116 0 [some (.ref 28)] [] I T Q := by
  refine p_day_28 ?_
  rw [h.cell (c := 29) (by decide)]
  exact hq
theorem q_bits (hI : Core B F S n cd) (h : ro B I) (hq : Q (.inl (some (.int (bits (B 29) F)))) I T) : ev E 112 0 [some (.ref 28), none, none] [] I T Q := by
  refine p_teamBits_28 (hI.1.ro h) ?_
  rw [h.cell (c := 29) (by decide)]
  exact hq
theorem q_size (hI : Core B F S n cd) (h : ro B I) (hq : Q (.inl (some (.int (ones (bits (B 29) F))))) I T) : ev E 122 0 [some (.ref 28)] [] I T Q := by
  refine p_teamSize_28 (hI.1.ro h) ?_
  rw [h.cell (c := 29) (by decide)]
  exact hq
theorem q_who (hI : Core B F S n cd) (h : ro B I) (p : Int32) (hq : Q (.inl (some (.int (whoAt (B 29) p F 0)))) I T) : ev E 110 0 [some (.ref 28), some (.int p), none] [] I T Q := by
  refine p_whoIsAt_28 (hI.1.ro h) p ?_
  rw [h.cell (c := 29) (by decide)]
  exact hq
theorem q_canPut (hI : Core B F S n cd) (h : ro B I) {f : Nat} (hf : f < F) (p : Int32) (hq : Q (.inl (some (.int (canP (B 29) F (B 6 f) f p)))) I T) : ev E 106 0 [some (.ref 28), some (.int (nI f)), some (.int p)] [] I T Q := by
  refine p_canPut_28 (hI.1.ro h) hf p ?_
  rw [h.cell (c := 29) (by decide), h.cell (c := 6) (by decide)]
  exact hq
theorem q_canDrive (hI : Core B F S n cd) (h : ro B I) (hq : Q (.inl (some (.int (canD (B 29) F S)))) I T) : ev E 114 0 [some (.ref 28)] [] I T Q := by
  refine p_canDrive_28 (hI.1.ro h) ?_
  rw [h.cell (c := 29) (by decide)]
  exact hq
theorem sub_scc1 : ∀ c, c ∈ [18, 19] → c ∈ SCC := by decide
theorem sub_scc2 : ∀ c, c ∈ [18, 19, 28] → c ∈ SCC := by decide
theorem sub_scc3 : ∀ c, c ∈ [425, 426] → c ∈ SCC := by decide
theorem sub_scc4 : ∀ c, c ∈ [18, 19, 30] → c ∈ SCC := by decide
theorem q_force (hI : Core B F S n cd) (h : ro B I) {f : Nat} (hf : f < F) (p z : Int32) (hq : ∀ J, ro B J → Q (.inl (some (.int (frA B n cd f p z)))) J T) : ev E 124 0 [some (.ref 28), some (.int (nI f)), some (.int p), some (.int z)] [] I T Q := by
  have h8 := hI.F8
  refine p_forceOf_28 (hI.1.ro h) (hI.lr.ro h) (by omega) p z (fun J hJ => ?_)
  rw [if_pos hf, if_pos hf, if_pos hf, if_pos hf, h.cell (c := 29) (by decide), h.cell (c := 4) (by decide), h.cell (c := 5) (by decide)]
  exact hq J (h.trans (hJ.ro sub_scc1))
theorem sidesC_ro (h : ro B I) (F n : Nat) (cd : Nat → Nat × Int32) : sidesC_28 I F n cd = sidesC_28 B F n cd := by
  unfold sidesC_28 foC
  rw [h.cell (c := 29) (by decide), h.cell (c := 4) (by decide), h.cell (c := 5) (by decide)]
theorem q_weigh (hI : Core B F S n cd) (h : ro B I) (hq : ∀ J, ro B J → (J 28 3, J 28 4) = sidesC_28 B F n cd → Q (.inl none) J T) : ev E 121 0 [some (.ref 28), none, none, none, none] [] I T Q := by
  refine p_weigh_28 (hI.1.ro h) (hI.lr.ro h) (fun J hJ he => ?_)
  rw [sidesC_ro h] at he
  exact hq J (h.trans (hJ.ro sub_scc2)) he
/-- strength and tilt -/
def strB (B : II) (F n : Nat) (cd : Nat → Nat × Int32) : Int32 := (sidesC_28 B F n cd).1 + (sidesC_28 B F n cd).2
def tltB (B : II) (F n : Nat) (cd : Nat → Nat × Int32) : Int32 := ab ((sidesC_28 B F n cd).1 - (sidesC_28 B F n cd).2)
theorem q_strength (hI : Core B F S n cd) (h : ro B I) (hq : ∀ J, ro B J → Q (.inl (some (.int (strB B F n cd)))) J T) : ev E 182 0 [some (.ref 28)] [] I T Q := by
  refine p_strengthNow (hI.1.ro h) (hI.lr.ro h) (fun J hJ => ?_)
  rw [sidesC_ro h]
  exact hq J (h.trans (hJ.ro sub_scc2))
theorem q_tilt (hI : Core B F S n cd) (h : ro B I) (hq : ∀ J, ro B J → Q (.inl (some (.int (tltB B F n cd)))) J T) : ev E 183 0 [some (.ref 28)] [] I T Q := by
  refine p_tiltNow_28 (hI.1.ro h) (hI.lr.ro h) (fun J hJ => ?_)
  rw [sidesC_ro h]
  exact hq J (h.trans (hJ.ro sub_scc2))
theorem q_outcome (hI : Core B F S n cd) (h : ro B I) {s : Nat} (hs : s < S) (hq : ∀ J, ro B J → Q (.inl (some (.int (outc (B 7 s) (B 8 s) (B 3 7) (strB B F n cd) (tltB B F n cd))))) J T) : ev E 209 0 [some (.ref 28), some (.int (nI s))] [] I T Q := by
  refine p_outcome_28 (hI.1.ro h) (hI.lr.ro h) hs (fun J hJ => ?_)
  rw [sidesC_ro h, h.cell (c := 7) (by decide), h.cell (c := 8) (by decide), h.cell (c := 3) (by decide)]
  exact hq J (h.trans (hJ.ro sub_scc2))
/-! the reference's -/
theorem bitsM (hI : Core B F S n cd) : bits (B 508) F = bits (B 29) F := bits_congr (fun f hf => hI.q (by have := hI.F8; omega))
theorem whoM (hI : Core B F S n cd) (p : Int32) : whoAt (B 508) p F 0 = whoAt (B 29) p F 0 := whoAt_congr p F 0 (fun g _ hg => hI.q (by have := hI.F8; omega))
theorem qm_bits (hI : Core B F S n cd) (h : ro B I) (hq : Q (.inl (some (.int (bits (B 29) F)))) I T) : ev E 152 0 [some (.ref 46), some (.ref 508), none, none] [] I T Q := by
  refine p_teamOf_508 (hI.2.1.ro h) ?_
  rw [h.cell (c := 508) (by decide), bitsM hI]
  exact hq
theorem qm_who (hI : Core B F S n cd) (h : ro B I) (p : Int32) (hq : Q (.inl (some (.int (whoAt (B 29) p F 0)))) I T) : ev E 151 0 [some (.ref 46), some (.ref 508), some (.int p), none] [] I T Q := by
  refine p_holder_508 (hI.2.1.ro h) p ?_
  rw [h.cell (c := 508) (by decide), whoM hI]
  exact hq
theorem qm_canPut (hI : Core B F S n cd) (h : ro B I) {f : Nat} (hf : f < F) (p : Int32) (hq : Q (.inl (some (.int (canP (B 29) F (B 6 f) f p)))) I T) : ev E 150 0 [some (.ref 46), some (.ref 508), some (.int (nI f)), some (.int p)] [] I T Q := by
  refine p_canBePut_508 (hI.2.1.ro h) hf p ?_
  have e : canP (I 508) F (I 84 f) f p = canP (B 29) F (B 6 f) f p := by
    have := hI.F8
    rw [h.cell (c := 508) (by decide), h.cell (c := 84) (by decide), (hI.fe hf).2.2.1]
    unfold canP
    rw [whoM hI, bitsM hI, hI.q (by omega)]
  rw [e]
  exact hq
theorem canD_M (hI : Core B F S n cd) : canD (B 508) F S = canD (B 29) F S := by
  unfold canD
  rw [bitsM hI, hI.q (by omega)]
theorem qm_canDrive (hI : Core B F S n cd) (h : ro B I) (hq : Q (.inl (some (.int (canD (B 29) F S)))) I T) : ev E 154 0 [some (.ref 46), some (.ref 508)] [] I T Q := by
  refine p_mcanDrive_508 (hI.2.1.ro h) ?_
  rw [h.cell (c := 508) (by decide), canD_M hI]
  exact hq
theorem qm_force (hI : Core B F S n cd) (h : ro B I) {f : Nat} (hf : f < F) (p z : Int32) (hq : ∀ J, ro B J → Q (.inl (some (.int (frA B n cd f p z)))) J T) : ev E 158 0 [some (.ref 46), some (.ref 508), some (.int (nI f)), some (.int p), some (.int z)] [] I T Q := by
  have h8 := hI.F8
  refine p_mforceOf_508 (hI.lr.ro h) (by omega) p z (fun J hJ => ?_)
  obtain ⟨e1, e2, -⟩ := hI.fe hf
  rw [h.cell (c := 508) (by decide), h.cell (c := 61 + f) (scr_rng (a := 61) (b := 69) (by omega) (by omega) (by decide)), e1, e2, hI.q (by omega), hI.q (by omega), hI.q (by omega), hI.q (by omega)]
  exact hq J (h.trans (hJ.ro sub_scc3))
theorem sidesM_B (hI : Core B F S n cd) (h : ro B I) : sidesM_508 I F n cd = sidesC_28 B F n cd := by
  have h8 := hI.F8
  unfold sidesM_508 sidesC_28 sides
  rw [h.cell (c := 508) (by decide), bitsM hI]
  refine rep_congr F 0 _ (fun f _ hf b => ?_)
  have hf : f < F := by omega
  obtain ⟨e1, e2, -⟩ := hI.fe hf
  unfold sd foM foC
  rw [h.cell (c := 508) (by decide), h.cell (c := 61 + f) (scr_rng (a := 61) (b := 69) (by omega) (by omega) (by decide)), e1, e2, hI.q (j := f) (by omega), hI.q (j := 8 + f) (by omega), hI.q (j := 16 + f) (by omega), hI.q (j := 24) (by omega), hI.q (j := 25) (by omega)]
theorem ro_plc (hI : Core B F S n cd) (h : ro B I) : plc (I 508) F := by
  rw [h.cell (c := 508) (by decide)]
  exact hI.mplc
theorem qm_pulls (hI : Core B F S n cd) (h : ro B I) (hq : ∀ J, ro B J → Q (.inl (some (.int (strB B F n cd)))) J T) : ev E 156 0 [some (.ref 46), some (.ref 508), some (.int 1), none, none, none, none] [] I T Q := by
  refine p_pulls_508 (hI.2.1.ro h) (hI.lr.ro h) (ro_plc hI h) 1 true ⟨fun q => absurd q (by decide), fun q => by cases q⟩ (fun J hJ => ?_)
  rw [if_pos rfl, sidesM_B hI h]
  exact hq J (h.trans (hJ.ro sub_scc3))
theorem qm_tilt (hI : Core B F S n cd) (h : ro B I) (hq : ∀ J, ro B J → Q (.inl (some (.int (tltB B F n cd)))) J T) : ev E 164 0 [some (.ref 46), some (.ref 508), none] [] I T Q := by
  refine p_tiltOf_508 (hI.2.1.ro h) (hI.lr.ro h) (ro_plc hI h) (fun J hJ => ?_)
  rw [sidesM_B hI h]
  exact hq J (h.trans (hJ.ro sub_scc3))
theorem qm_comesBy (hI : Core B F S n cd) (h : ro B I) {s : Nat} (hs : s < S) (st tilt : Int32) (hq : Q (.inl (some (.int (outc (B 7 s) (B 8 s) (B 3 7) st tilt)))) I T) : ev E 165 0 [some (.ref 46), some (.int (nI s)), some (.int st), some (.int tilt)] [] I T Q := by
  have h6 := hI.S6
  refine p_comesBy (by omega) st tilt ?_
  obtain ⟨e1, e2, -⟩ := hI.st hs
  rw [h.cell (c := 77 + s) (scr_rng (a := 77) (b := 83) (by omega) (by omega) (by decide)), h.cell (c := 50) (by decide), e1, e2, hI.br]
  exact hq
/-! guards -/
def wI (x a b : Int32) : Int32 := if x < a then 0 else if b < x then 0 else 1
def okW (x a b : Int32) : Prop := ¬ x < a ∧ ¬ b < x
theorem wI_t {x a b : Int32} (h : okW x a b) : wI x a b = 1 := by unfold wI; rw [if_neg h.1, if_neg h.2]
theorem wI_f {x a b : Int32} (h : ¬ okW x a b) : wI x a b = 0 := by
  unfold wI
  by_cases c : x < a
  · rw [if_pos c]
  · rw [if_neg c]
    by_cases d : b < x
    · rw [if_pos d]
    · exact absurd ⟨c, d⟩ h
theorem okW_nat {x : Int32} {k : Nat} (hk : k < 2 ^ 31) (h : okW x 0 (nI k)) : ∃ j, j ≤ k ∧ x = nI j := nI_of2 (nI_toInt hk) h.1 (fa_of_nlt h.2)
theorem okW_lt {x : Int32} {k : Nat} (hk : k ≤ 8) : okW x 0 (nI k - 1) ↔ ∃ j, j < k ∧ x = nI j := by
  match k, hk with
  | 0, _ =>
    constructor
    · rintro ⟨h1, h2⟩
      have h3 := fa_of_nlt h1
      have h4 := fa_of_nlt h2
      rw [fa_le] at h3 h4
      have e0 : (0 : Int32).toInt = 0 := rfl
      have e1 : (nI 0 - 1 : Int32).toInt = -1 := by decide
      omega
    · rintro ⟨j, h, -⟩
      omega
  | k + 1, hk =>
    rw [nI_pred]
    constructor
    · intro h
      obtain ⟨j, h1, h2⟩ := okW_nat (by omega) h
      exact ⟨j, by omega, h2⟩
    · rintro ⟨j, h1, rfl⟩
      exact ⟨nI_pos (by omega), nI_nlt (by omega) (by omega)⟩
theorem q_within (x a b : Int32) (hq : Q (.inl (some (.int (wI x a b)))) I T) : ev E 27 0 [some (.int x), some (.int a), some (.int b)] [] I T Q := p_within x a b hq
theorem q_in (x a b : Int32) (hq : Q (.inl (some (.int (wI x a b)))) I T) : ev E 57 0 [some (.int x), some (.int a), some (.int b)] [] I T Q := by
  refine s_M_in_0 ?_
  unfold t_M_in_0 t_M_in_8 t_M_in_9
  unfold wI at hq
  refine ⟨fun q => ?_, fun q => ⟨fun q2 => ?_, fun q2 => ?_⟩⟩
  · rw [if_pos q] at hq; exact ⟨Or.inl rfl, hq⟩
  · rw [if_neg q, if_pos q2] at hq; exact ⟨Or.inl rfl, hq⟩
  · rw [if_neg q, if_neg q2] at hq; exact ⟨Or.inr rfl, hq⟩
theorem wI_01 (x a b : Int32) : wI x a b = 0 ∨ wI x a b = 1 := by
  by_cases h : okW x a b
  · exact Or.inr (wI_t h)
  · exact Or.inl (wI_f h)
theorem q_isPlace (x : Int32) (hq : Q (.inl (some (.int (wI x 0 3)))) I T) : ev E 198 0 [some (.int x)] [] I T Q := by
  refine s_X_isPlace_0 ?_
  unfold t_X_isPlace_0
  exact q_within _ _ _ ⟨wI_01 _ _ _, hq⟩
theorem qm_isPlace (x : Int32) (hq : Q (.inl (some (.int (wI x 0 3)))) I T) : ev E 200 0 [some (.int x)] [] I T Q := by
  refine s_M_isPlace_0 ?_
  unfold t_M_isPlace_0
  exact q_in _ _ _ ⟨wI_01 _ _ _, hq⟩
theorem qm_isFeeling (hI : mN I F S) (x : Int32) (hq : Q (.inl (some (.int (wI x 0 (nI F - 1))))) I T) : ev E 190 0 [some (.ref 46), some (.int x)] [] I T Q := by
  refine s_M_isFeeling_0 ?_
  unfold t_M_isFeeling_0
  rw [hI.1]
  exact q_in _ _ _ ⟨wI_01 _ _ _, hq⟩
theorem qm_isStage (hI : mN I F S) (x : Int32) (hq : Q (.inl (some (.int (wI x 0 (nI S - 1))))) I T) : ev E 195 0 [some (.ref 46), some (.int x)] [] I T Q := by
  refine s_M_isStage_0 ?_
  unfold t_M_isStage_0
  rw [hI.2.2.1]
  exact q_in _ _ _ ⟨wI_01 _ _ _, hq⟩
/-- a cell more, six slots more: an exception -/
abbrev TX (T : TT) : TT := (T.1, T.2.1 + 1, T.2.2 + 6)
def TG (T : TT) : Prop := 537 ≤ T.2.1 ∧ T.2.1 < 1000000
theorem q_need (hT : TG T) (w : Int32) (h1 : w ≠ 0 → Q (.inl none) I T) (h0 : w = 0 → Q (.inr 1) (m_up I 0 15 (I 0 15 + 1)) (TX T)) : ev E 28 0 [some (.ref 0), some (.int w)] [] I T Q := by
  refine s_X_need_0 ?_
  unfold t_X_need_0
  exact ⟨fun q => ⟨hT, h0 q⟩, fun q => h1 q⟩
theorem q_needF (hI : hN I F S) (hT : TG T) (x : Int32) (h1 : (∃ f, f < F ∧ x = nI f) → Q (.inl none) I T) (h0 : ¬ (∃ f, f < F ∧ x = nI f) → Q (.inr 0) (m_up I 0 14 (I 0 14 + 1)) (TX T)) : ev E 188 0 [some (.ref 0), some (.int x)] [] I T Q := by
  refine s_X_needFeeling_0 ?_
  unfold t_X_needFeeling_0
  rw [hI.1]
  refine q_within _ _ _ ?_
  by_cases c : okW x 0 (nI F - 1)
  · rw [wI_t c]
    exact bq_f (by decide) (h1 ((okW_lt hI.2.1).mp c))
  · rw [wI_f c]
    exact bq_t rfl ⟨hT, h0 (fun q => c ((okW_lt hI.2.1).mpr q))⟩
theorem q_needS (hI : hN I F S) (hT : TG T) (x : Int32) (h1 : (∃ f, f < S ∧ x = nI f) → Q (.inl none) I T) (h0 : ¬ (∃ f, f < S ∧ x = nI f) → Q (.inr 0) (m_up I 0 14 (I 0 14 + 1)) (TX T)) : ev E 193 0 [some (.ref 0), some (.int x)] [] I T Q := by
  have h6 := hI.2.2.2
  refine s_X_needStage_0 ?_
  unfold t_X_needStage_0
  rw [hI.2.2.1]
  refine q_within _ _ _ ?_
  by_cases c : okW x 0 (nI S - 1)
  · rw [wI_t c]
    exact bq_f (by decide) (h1 ((okW_lt (by omega)).mp c))
  · rw [wI_f c]
    exact bq_t rfl ⟨hT, h0 (fun q => c ((okW_lt (by omega)).mpr q))⟩
theorem qm_bad0 (h0 : I 46 0 = 0) (w r : Int32) (hq : Q (.inl (some (.int 0))) I T) : ev E 58 0 [some (.ref 46), some (.int 0), some (.int w), some (.int r)] [] I T Q := by
  refine s_M_bad_0 ?_
  unfold t_M_bad_0 t_M_bad_16 t_M_bad_22
  exact bq_t rfl (bq_t h0 ⟨Or.inl rfl, hq⟩)
theorem qm_bad1 (h0 : I 46 0 = 0) {w : Int32} (hw : w ≠ 0) {j : Nat} (hj : j < 2) (hq : Q (.inl (some (.int 1))) (m_up (m_up I 46 0 w) 48 j (I 48 j + 1)) T) : ev E 58 0 [some (.ref 46), some (.int 1), some (.int w), some (.int (nI j))] [] I T Q := by
  refine s_M_bad_0 ?_
  unfold t_M_bad_0 t_M_bad_16 t_M_bad_22
  refine bq_f (by decide) (bq_t h0 ⟨gix hj (by omega), gix hj (by omega), ?_⟩)
  rw [nI_clamp (by omega)]
  exact bq_f hw ⟨Or.inr rfl, hq⟩
/-- the tail of a case: thrown alike, answered alike -/
theorem fin_ok {C D : II → TT → Prop} {v1 v2 : Int32} (h1 : I 46 0 = v1) (h2 : v1 = 0 → T.1 536 0 = v2.toInt64) (hC : C I T) : ev E 76 0 [some (.ref 46)] [] I T (KI (fun v3 I3 T3 => (v3 = v1 → ((v1 = 0 → (((lg_cmp (T3.1 536 0) v2.toInt64) = 0 → (C I3 T3)) ∧ (¬ ((lg_cmp (T3.1 536 0) v2.toInt64) = 0) → (D I3 T3)))) ∧ (¬ (v1 = 0) → (C I3 T3)))) ∧ (¬ (v3 = v1) → (D I3 T3))) (fun _ _ _ => False)) := by
  refine s_M_thrown_0 ?_
  refine bq_t h1 ?_
  refine ⟨fun q => bq_t ((lg_cmp_eq _ _).mpr (h2 q)) hC, fun _ => hC⟩
theorem TI_x {T : TT} {m : Nat} (h : TI T m) : TI (TX T) (m + 1) := ⟨by show 537 ≤ T.2.1 + 1; have := h.1; omega, by show T.2.1 + 1 ≤ _; have := h.2.1; omega, by show T.2.2 + 6 ≤ _; have := h.2.2; omega⟩
theorem TI_s {T : TT} {m : Nat} (h : TI T m) : TI T (m + 1) := TI_up h (by omega)
theorem TI_o {T : TT} {m : Nat} (h : TI T m) (L : Nat → Nat → Int64) : TI (L, T.2) m := h
theorem TI_g {T : TT} {m : Nat} (h : TI T m) (hm : m ≤ 511) : TG T := ⟨h.1, by have := h.2.1; omega⟩
theorem gsc {i L : Nat} (j : Nat) (hi : i + 9 ≤ L) (hL : L ≤ 4608) (hj : j ≤ 8) : ¬ (nI i + nI j) < 0 ∧ (nI i + nI j).toNatClampNeg < L := by
  rw [nI_add]
  exact ⟨nI_pos (by omega), by rw [nI_clamp (by omega)]; omega⟩
/-- refused by both -/
theorem Inv_thr {B I J K : II} {x : Nat} (hx : x < 2) (hB : Inv B) (h1 : I = m_up B 0 (14 + x) (B 0 (14 + x) + 1)) (hJ : ro I J) (h2 : ro (m_up J 48 x (J 48 x + 1)) K) : Inv K := by
  obtain ⟨F, S, n, cd, hB⟩ := hB
  have e1 : ∀ c, c ∉ SCR → c ≠ 48 → K c = B c := fun c hc h48 => by
    rw [h2.cell hc, m_up_ne h48, hJ.cell hc, h1, m_up_ne (fun e => hc (by rw [e]; decide))]
  have e46 : ∀ j, j ≠ 0 → j ≠ 42 → j ≠ 43 → j ≠ 47 → K 46 j = B 46 j := fun j a b c d => by
    rw [h2.2.2 j a b c d, m_up_ne (by decide), hJ.2.2 j a b c d, h1, m_up_ne (by decide)]
  have e48 : K 48 = fun j => if j = x then B 48 x + 1 else B 48 j := by
    rw [h2.cell (c := 48) (by decide)]
    funext j
    rw [m_up_at, hJ.cell (c := 48) (by decide), h1, m_up_ne (by decide)]
  have e0 : ∀ j, j ≠ 12 → K 0 j = if j = 14 + x then B 0 (14 + x) + 1 else B 0 j := fun j hj => by
    rw [h2.2.1 j hj, m_up_ne (by decide), hJ.2.1 j hj, h1, m_up_at]
  -- a heap that is alike but for the counters
  have hm : ro (fun c => if c = 48 then K 48 else if c = 0 then K 0 else B c) K := by
    refine ⟨fun c hc => ?_, fun j _ => rfl, fun j a b c d => ?_⟩
    · by_cases q : c = 48
      · subst q; rfl
      · show K c = if c = 48 then K 48 else if c = 0 then K 0 else B c
        rw [if_neg q, if_neg (fun e => hc (by rw [e]; decide))]
        exact e1 c hc q
    · exact e46 j a b c d
  refine Inv.ro hm ⟨F, S, n, cd, ?_⟩
  obtain ⟨a1, a2, a3, a4, a5, a6, a7⟩ := hB
  have cc : ∀ c, c ≠ 48 → c ≠ 0 → (fun c => if c = 48 then K 48 else if c = 0 then K 0 else B c) c = B c := fun c h1 h2 => by
    show (if c = 48 then K 48 else if c = 0 then K 0 else B c) = B c
    rw [if_neg h1, if_neg h2]
  refine ⟨?_, ?_, ?_, ?_, ?_, ?_, ?_⟩
  · obtain ⟨b1, b2, ⟨⟨dep, hw⟩, hc, hmm⟩, b4, b5, b6, b7, b8⟩ := a1
    refine ⟨b1, b2, ⟨⟨dep, hw⟩, hc, ?_⟩, fun f hf => ?_, fun s hs => ?_, b6, b7, b8⟩
    · rcases hmm with ⟨h1, hm⟩ | q
      · refine Or.inl ⟨h1, hm.1, fun k hk => ?_⟩
        rw [cc (86 + k) (by omega) (by omega)]
        exact hm.2 k hk
      · exact Or.inr q
    · rw [cc (61 + f) (by omega) (by omega)]; exact b4 f hf
    · rw [cc (77 + s) (by omega) (by omega)]; exact b5 s hs
  · obtain ⟨k, h1, h2, h3, h4, h5⟩ := a2
    refine ⟨k, h1, h2, h3, fun j hj => ?_, fun f hf => ?_⟩
    · rw [cc (408 + j) (by omega) (by omega)]; exact h4 j hj
    · rcases h5 f hf with q | ⟨j, q1, q2⟩
      · exact Or.inl q
      · refine Or.inr ⟨j, q1, ?_⟩
        rw [cc (408 + j) (by omega) (by omega)]; exact q2
  · obtain ⟨w, h1, h2, h3, h4⟩ := a3
    refine ⟨w, h1, h2, h3, fun k hk => ?_⟩
    rw [cc (511 + k) (by omega) (by omega)]; exact h4 k hk
  · obtain ⟨w, h1, h2, h3, h4⟩ := a4
    refine ⟨w, h1, h2, h3, fun k hk => ?_⟩
    rw [cc (528 + k) (by omega) (by omega)]; exact h4 k hk
  · exact a5
  · obtain ⟨c1, c2, c3⟩ := a6
    refine ⟨?_, ?_, ?_⟩
    · show K 0 13 = B 46 35
      rw [e0 13 (by decide), if_neg (by omega)]; exact c1
    · show K 0 14 = K 48 0
      rw [e0 14 (by decide), e48]
      match x, hx with
      | 0, _ => show B 0 14 + 1 = B 48 0 + 1; rw [c2]
      | 1, _ => exact c2
    · show K 0 15 = K 48 1
      rw [e0 15 (by decide), e48]
      match x, hx with
      | 0, _ => exact c3
      | 1, _ => show B 0 15 + 1 = B 48 1 + 1; rw [c3]
  · exact a7
end ASK
