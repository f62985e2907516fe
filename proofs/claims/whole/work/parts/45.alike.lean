/-! ===== a stage driven by both: rows stay alike ===== -/
def p999 (x : Int32) : Int32 := if x ≤ 999 then x else 999
theorem t999_p {x : Int32} (h : 0 ≤ x) : t999 x = p999 x := by
  have e0 : (0 : Int32).toInt = 0 := rfl
  have e9 : (999 : Int32).toInt = 999 := rfl
  rw [fa_le, e0] at h
  unfold t999 p999
  by_cases h1 : x < 999
  · have h2 : x ≤ 999 := by rw [fa_le, e9]; rw [fa_lt, e9] at h1; omega
    by_cases h3 : 0 < x
    · simp only [if_pos h1, if_pos h2, if_pos h3]
    · simp only [if_pos h1, if_pos h2, if_neg h3]
      rw [fa_eq]
      rw [fa_lt, e0] at h3
      omega
  · have h0 : (0 : Int32) < 999 := by decide
    simp only [if_neg h1, if_pos h0]
    by_cases h2 : x ≤ 999
    · simp only [if_pos h2]
      rw [fa_eq]
      rw [fa_lt, e9] at h1
      rw [fa_le, e9] at h2
      omega
    · simp only [if_neg h2]
theorem p0_mx (x : Int32) : p0 x = mx0 x := by
  have e0 : (0 : Int32).toInt = 0 := rfl
  unfold p0 mx0
  by_cases h1 : 0 < x
  · have h2 : 0 ≤ x := by rw [fa_le, e0]; rw [fa_lt, e0] at h1; omega
    rw [if_pos h1, if_pos h2]
  · rw [if_neg h1]
    by_cases h2 : 0 ≤ x
    · rw [if_pos h2, fa_eq]
      rw [fa_lt, e0] at h1
      rw [fa_le, e0] at h2
      omega
    · rw [if_neg h2]
/-- stuck or through: all are tired alike -/
theorem rowR_tire {r0 : Nat → Int32} {k : Nat} (hk : k ≠ 1) {m : Int32} : ∀ (d f : Nat) (r q : Nat → Int32), f + d ≤ 8 → rowR r q → (∀ g, f ≤ g → g < f + d → r g = r0 g ∧ 0 ≤ r (16 + g) + m) → rowR (rep (tireC m) d f r) (rep (stepM r0 k m) d f q)
  | 0, _, _, _, _, h, _ => h
  | d + 1, f, r, q, hf, h, hv => by
    rw [rep, rep]
    obtain ⟨v1, v2⟩ := hv f (Nat.le_refl _) (by omega)
    by_cases c : r f = -1
    · have e1 : tireC m f r = r := by unfold tireC; rw [if_pos c]
      have e2 : stepM r0 k m f q = q := by unfold stepM; rw [if_pos (by rw [← v1]; exact c)]
      rw [e1, e2]
      exact rowR_tire hk d (f + 1) r q (by omega) h (fun g h1 h2 => hv g (by omega) (by omega))
    · have e1 : tireC m f r = upd r (16 + f) (t999 (r (16 + f) + m)) := by unfold tireC; rw [if_neg c]
      have e2 : stepM r0 k m f q = upd q (16 + f) (p999 (q (16 + f) + m)) := by unfold stepM; rw [if_neg (by rw [← v1]; exact c), if_neg hk]; rfl
      rw [e1, e2]
      refine rowR_tire hk d (f + 1) _ _ (by omega) (h.up (by omega) (by rw [h.1 (16 + f) (by omega), t999_p v2])) (fun g h1 h2 => ?_)
      rw [upd_ne (by omega), upd_ne (by omega)]
      exact hv g (by omega) (by omega)
/-- what one does to a feeling leaves the others: tired first, or spilt first -/
theorem ts_comm {m : Int32} {f g : Nat} (hf : f < 8) (hg : g < 8) (h : f ≠ g) (r : Nat → Int32) : spillC g (tireC m f r) = tireC m f (spillC g r) := by
  have a1 : ∀ x, upd r (16 + f) x g = r g := fun x => upd_ne (by omega)
  have a2 : ∀ x, upd r (16 + f) x (8 + g) = r (8 + g) := fun x => upd_ne (by omega)
  unfold spillC tireC
  by_cases c1 : r f = -1
  · simp only [if_pos c1]
    by_cases c2 : r g = -1
    · simp only [if_pos c2, if_pos c1]
    · simp only [if_neg c2]
      by_cases c3 : p0 (r (8 + g) - 3) = 0
      · simp only [if_pos c3]
        rw [if_pos (by rw [upd_ne h, upd_ne (by omega)]; exact c1)]
      · simp only [if_neg c3]
        rw [if_pos (by rw [upd_ne (by omega)]; exact c1)]
  · simp only [if_neg c1, a1, a2]
    by_cases c2 : r g = -1
    · simp only [if_pos c2, if_neg c1]
    · simp only [if_neg c2]
      by_cases c3 : p0 (r (8 + g) - 3) = 0
      · simp only [if_pos c3]
        rw [if_neg (by rw [upd_ne h, upd_ne (by omega)]; exact c1), upd_ne (show 16 + f ≠ g by omega), upd_ne (show 16 + f ≠ 8 + g by omega)]
        rw [fa_upd_swap _ (show 16 + f ≠ 8 + g by omega), fa_upd_swap _ (show 16 + f ≠ g by omega)]
      · simp only [if_neg c3]
        rw [if_neg (by rw [upd_ne (show f ≠ 8 + g by omega)]; exact c1), upd_ne (show 16 + f ≠ 8 + g by omega)]
        rw [fa_upd_swap _ (show 16 + f ≠ 8 + g by omega)]
