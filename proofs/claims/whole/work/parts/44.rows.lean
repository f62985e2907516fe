/-! ===== rows of the class and of the reference ===== -/
theorem upd_at (r : Nat → Int32) (i : Nat) (x : Int32) : upd r i x i = x := if_pos rfl
theorem upd_ne {r : Nat → Int32} {i j : Nat} {x : Int32} (h : j ≠ i) : upd r i x j = r j := if_neg h
/-- alike, but that the tallies stand the other way round -/
def rowR (r q : Nat → Int32) : Prop := (∀ j, j < 26 → q j = r j) ∧ q 26 = r 28 ∧ q 27 = r 27 ∧ q 28 = r 26
/-- what holds of every row -/
def rowV (r : Nat → Int32) (F S : Nat) : Prop := plc r F ∧ (∀ f g, f < F → g < F → f ≠ g → r f ≠ -1 → r f ≠ r g) ∧ (∀ f, f < F → ∃ t, t ≤ 9 ∧ r (8 + f) = nI t) ∧ (∀ f, f < F → ∃ t, t ≤ 999 ∧ r (16 + f) = nI t) ∧ ∃ b, b ≤ S ∧ r 25 = nI b
theorem rowR.up {r q : Nat → Int32} (h : rowR r q) {i : Nat} (hi : i < 26) {x y : Int32} (e : y = x) : rowR (upd r i x) (upd q i y) := by
  subst e
  refine ⟨fun j hj => ?_, ?_, ?_, ?_⟩
  · by_cases k : j = i
    · subst k; rw [upd_at, upd_at]
    · rw [upd_ne k, upd_ne k]; exact h.1 j hj
  · rw [upd_ne (by omega), upd_ne (by omega)]; exact h.2.1
  · rw [upd_ne (by omega), upd_ne (by omega)]; exact h.2.2.1
  · rw [upd_ne (by omega), upd_ne (by omega)]; exact h.2.2.2
theorem rowR_tally {r q : Nat → Int32} (h : rowR r q) : ∀ {k : Nat}, k < 3 → rowR (tally k r) (tallyM k q)
  | 0, _ => by
    obtain ⟨h1, h2, h3, h4⟩ := h
    unfold tally tallyM
    refine ⟨fun j hj => ?_, ?_, ?_, ?_⟩
    · rw [upd_ne (by omega), upd_ne (by omega)]; exact h1 j hj
    · rw [upd_ne (by omega), upd_ne (by omega)]; exact h2
    · rw [upd_ne (by omega), upd_ne (by omega)]; exact h3
    · show upd q 28 (q 28 + 1) 28 = upd r 26 (r 26 + 1) 26
      rw [upd_at, upd_at, h4]
  | 1, _ => by
    obtain ⟨h1, h2, h3, h4⟩ := h
    unfold tally tallyM
    refine ⟨fun j hj => ?_, ?_, ?_, ?_⟩
    · rw [upd_ne (by omega), upd_ne (by omega)]; exact h1 j hj
    · rw [upd_ne (by omega), upd_ne (by omega)]; exact h2
    · show upd q 27 (q 27 + 1) 27 = upd r 27 (r 27 + 1) 27
      rw [upd_at, upd_at, h3]
    · rw [upd_ne (by omega), upd_ne (by omega)]; exact h4
  | 2, _ => by
    obtain ⟨h1, h2, h3, h4⟩ := h
    unfold tally tallyM
    refine ⟨fun j hj => ?_, ?_, ?_, ?_⟩
    · rw [upd_ne (by omega), upd_ne (by omega)]; exact h1 j hj
    · show upd q 26 (q 26 + 1) 26 = upd r 28 (r 28 + 1) 28
      rw [upd_at, upd_at, h2]
    · rw [upd_ne (by omega), upd_ne (by omega)]; exact h3
    · rw [upd_ne (by omega), upd_ne (by omega)]; exact h4
  | k + 3, h9 => absurd h9 (by omega)
/-- a day of rest -/
theorem rowR_rest {calm : Nat → Int32} : ∀ (d f : Nat) (r q : Nat → Int32), f + d ≤ 8 → rowR r q → (∀ g, f ≤ g → g < f + d → r (16 + g) - easeC r calm g ≤ 999) → rowR (rep (rsC calm) d f r) (rep (rsM calm) d f q)
  | 0, _, _, _, _, h, _ => h
  | d + 1, f, r, q, hf, h, hv => by
    rw [rep, rep]
    have e1 : easeC q calm f = easeC r calm f := by unfold easeC; rw [h.1 f (by omega)]
    have e2 : mx0 (q (16 + f) - easeC q calm f) = t999 (r (16 + f) - easeC r calm f) := by
      rw [e1, h.1 (16 + f) (by omega), t999_eq (hv f (Nat.le_refl _) (by omega))]
    refine rowR_rest d (f + 1) _ _ (by omega) (h.up (by omega) e2) (fun g h1 h2 => ?_)
    have e3 : rsC calm f r (16 + g) = r (16 + g) := upd_ne (by omega)
    have e4 : rsC calm f r g = r g := upd_ne (by omega)
    have e5 : easeC (rsC calm f r) calm g = easeC r calm g := by unfold easeC; rw [e4]
    rw [e3, e5]
    exact hv g (by omega) (by omega)
theorem rest_alike {calm : Nat → Int32} {F : Nat} (hF : F ≤ 8) {r q : Nat → Int32} (h : rowR r q) (hv : ∀ g, g < F → r (16 + g) - easeC r calm g ≤ 999) : rowR (restC calm F r) (restM calm F q) := by
  unfold restC restM
  have h2 := rowR_rest (calm := calm) F 0 r q (by omega) h (fun g _ h2 => hv g (by omega))
  exact h2.up (by omega) (by rw [h2.1 24 (by omega)])

