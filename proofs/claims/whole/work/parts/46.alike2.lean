/-! ===== spilt: two passes are one ===== -/
theorem spill_past {m : Int32} {f : Nat} (hf : f < 8) : ∀ (d g : Nat) (r : Nat → Int32), f < g → g + d ≤ 8 → spillC f (rep (tireC m) d g r) = rep (tireC m) d g (spillC f r)
  | 0, _, _, _, _ => rfl
  | d + 1, g, r, h1, h2 => by
    rw [rep, rep, spill_past hf d (g + 1) _ (by omega) (by omega), ts_comm (by omega) hf (by omega)]
theorem rep_0 {α : Type} (s : Nat → α → α) (f : Nat) (a : α) : rep s 0 f a = a := rfl
theorem rep_S {α : Type} (s : Nat → α → α) (d f : Nat) (a : α) : rep s (d + 1) f a = rep s d (f + 1) (s f a) := rfl
def fusC (m : Int32) (f : Nat) (r : Nat → Int32) : Nat → Int32 := spillC f (tireC m f r)
theorem two_pass {m : Int32} (d : Nat) : ∀ (f : Nat) (r : Nat → Int32), f + d ≤ 8 → rep spillC d f (rep (tireC m) d f r) = rep (fusC m) d f r := by
  induction d with
  | zero => intro f r _; exact Eq.trans (rep_0 spillC f _) (Eq.trans (rep_0 (tireC m) f r) (rep_0 (fusC m) f r).symm)
  | succ d ih =>
    intro f r h
    have a1 := spill_past (m := m) (f := f) (by omega) d (f + 1) (tireC m f r) (by omega) (by omega)
    have a2 := ih (f + 1) (fusC m f r) (by omega)
    have a3 : rep spillC d (f + 1) (spillC f (rep (tireC m) d (f + 1) (tireC m f r))) = rep (fusC m) d (f + 1) (fusC m f r) := Eq.trans (congrArg (rep spillC d (f + 1)) a1) a2
    exact Eq.trans (Eq.trans (congrArg (rep spillC (d + 1) f) (rep_S (tireC m) d f r)) (rep_S spillC d f _)) (Eq.trans a3 (rep_S (fusC m) d f r).symm)
theorem rowR_spill {r0 : Nat → Int32} {m : Int32} : ∀ (d f : Nat) (r q : Nat → Int32), f + d ≤ 8 → rowR r q → (∀ g, f ≤ g → g < f + d → r g = r0 g ∧ 0 ≤ r (16 + g) + m) → rowR (rep (fusC m) d f r) (rep (stepM r0 1 m) d f q)
  | 0, _, _, _, _, h, _ => h
  | d + 1, f, r, q, hf, h, hv => by
    rw [rep, rep]
    obtain ⟨v1, v2⟩ := hv f (Nat.le_refl _) (by omega)
    have hn : ∀ r1 q1, rowR r1 q1 → (∀ g, f + 1 ≤ g → g < f + 1 + d → r1 g = r g ∧ r1 (16 + g) = r (16 + g)) → rowR (rep (fusC m) d (f + 1) r1) (rep (stepM r0 1 m) d (f + 1) q1) := fun r1 q1 hR hs => rowR_spill d (f + 1) r1 q1 (by omega) hR (fun g h1 h2 => by
      obtain ⟨s1, s2⟩ := hs g h1 h2
      rw [s1, s2]
      exact hv g (by omega) (by omega))
    by_cases c : r f = -1
    · have e1 : fusC m f r = r := by
        unfold fusC
        have : tireC m f r = r := by unfold tireC; rw [if_pos c]
        rw [this]
        unfold spillC
        rw [if_pos c]
      have e2 : stepM r0 1 m f q = q := by unfold stepM; rw [if_pos (by rw [← v1]; exact c)]
      rw [e1, e2]
      exact hn r q h (fun _ _ _ => ⟨rfl, rfl⟩)
    · have e0 : tireC m f r = upd r (16 + f) (t999 (r (16 + f) + m)) := by unfold tireC; rw [if_neg c]
      have e2 : stepM r0 1 m f q = plcM f (tgtM f (upd q (16 + f) (p999 (q (16 + f) + m)))) := by unfold stepM; rw [if_neg (by rw [← v1]; exact c), if_pos rfl]; rfl
      have hR1 : rowR (upd r (16 + f) (t999 (r (16 + f) + m))) (upd q (16 + f) (p999 (q (16 + f) + m))) := h.up (by omega) (by rw [h.1 (16 + f) (by omega), t999_p v2])
      unfold fusC
      rw [e0, e2]
      generalize hr1 : upd r (16 + f) (t999 (r (16 + f) + m)) = r1 at hR1 ⊢
      generalize upd q (16 + f) (p999 (q (16 + f) + m)) = q1 at hR1 ⊢
      have c1 : r1 f ≠ -1 := by rw [← hr1, upd_ne (by omega)]; exact c
      have keep : ∀ g, f + 1 ≤ g → g < f + 1 + d → r1 g = r g ∧ r1 (16 + g) = r (16 + g) := fun g h1 h2 => by
        rw [← hr1]
        exact ⟨upd_ne (by omega), upd_ne (by omega)⟩
      have hR2 : rowR (upd r1 (8 + f) (p0 (r1 (8 + f) - 3))) (tgtM f q1) := hR1.up (by omega) (by rw [hR1.1 (8 + f) (by omega), p0_mx])
      have e8 : tgtM f q1 (8 + f) = p0 (r1 (8 + f) - 3) := by
        rw [hR2.1 (8 + f) (by omega), upd_at]
      by_cases c3 : p0 (r1 (8 + f) - 3) = 0
      · have e4 : spillC f r1 = upd (upd r1 (8 + f) (p0 (r1 (8 + f) - 3))) f (-1) := by unfold spillC; rw [if_neg c1, if_pos c3]
        have e5 : plcM f (tgtM f q1) = upd (tgtM f q1) f (-1) := by unfold plcM; rw [if_pos (by rw [e8]; exact c3)]
        rw [e4, e5]
        refine hn _ _ (hR2.up (by omega) rfl) (fun g h1 h2 => ?_)
        rw [upd_ne (by omega), upd_ne (by omega), upd_ne (by omega), upd_ne (by omega)]
        exact keep g h1 h2
      · have e4 : spillC f r1 = upd r1 (8 + f) (p0 (r1 (8 + f) - 3)) := by unfold spillC; rw [if_neg c1, if_neg c3]
        have e5 : plcM f (tgtM f q1) = tgtM f q1 := by unfold plcM; rw [if_neg (by rw [e8]; exact c3)]; exact fa_upd_same rfl
        rw [e4, e5]
        refine hn _ _ hR2 (fun g h1 h2 => ?_)
        rw [upd_ne (by omega), upd_ne (by omega)]
        exact keep g h1 h2
/-- a stage, driven by both -/
theorem drive_alike {len turn bears st tilt : Int32} {F : Nat} (hF : F ≤ 8) {r q : Nat → Int32} (h : rowR r q) (hst : outN len turn bears st tilt = 2 → ¬ st ≤ 0) (hv : ∀ g, g < F → 0 ≤ r (16 + g) + moreM len turn st (outN len turn bears st tilt)) : rowR (driveC len turn bears st tilt F r) (driveM len turn bears st tilt F q) := by
  have hk := outN_lt len turn bears st tilt
  have hq : ∀ g, g < F → r g = q g := fun g hg => (h.1 g (by omega)).symm
  unfold driveC driveM
  generalize outN len turn bears st tilt = k at hst hv hk ⊢
  have hv2 : ∀ g, 0 ≤ g → g < 0 + F → r g = q g ∧ 0 ≤ r (16 + g) + moreM len turn st k := fun g _ h2 => ⟨hq g (by omega), hv g (by omega)⟩
  match k, hk, hst, hv2 with
  | 0, hk, _, hv2 =>
    have h2 := rowR_tire (r0 := q) (k := 0) (by decide) (m := moreM len turn st 0) F 0 r q (by omega) h hv2
    have h3 := rowR_tally h2 (k := 0) (by omega)
    refine ⟨fun j hj => ?_, ?_, ?_, ?_⟩
    · unfold endM
      by_cases e : j = 25
      · subst e
        rw [upd_at, if_neg (by decide), h3.1 25 (by omega)]
        exact Int32.add_zero _
      · rw [upd_ne e]; exact h3.1 j hj
    · exact h3.2.1
    · exact h3.2.2.1
    · exact h3.2.2.2
  | 1, hk, _, hv2 =>
    have h2 := rowR_spill (r0 := q) (m := moreM len turn st 1) F 0 r q (by omega) h hv2
    rw [← two_pass F 0 r (by omega)] at h2
    have h3 := rowR_tally h2 (k := 1) (by omega)
    refine ⟨fun j hj => ?_, ?_, ?_, ?_⟩
    · unfold endM
      by_cases e : j = 25
      · subst e
        rw [upd_at, if_neg (by decide), h3.1 25 (by omega)]
        exact Int32.add_zero _
      · rw [upd_ne e]; exact h3.1 j hj
    · exact h3.2.1
    · exact h3.2.2.1
    · exact h3.2.2.2
  | 2, hk, hst, hv2 =>
    have es : slowC len st + 1 + turn / 3 = moreM len turn st 2 := by
      unfold slowC moreM
      rw [if_neg (hst rfl), if_neg (by decide), if_neg (by decide)]
    have h2 := rowR_tire (r0 := q) (k := 2) (by decide) (m := moreM len turn st 2) F 0 r q (by omega) h hv2
    rw [if_neg (by decide), if_neg (by decide)]
    unfold thruC
    rw [es]
    generalize rep (tireC (moreM len turn st 2)) F 0 r = r1 at h2 ⊢
    generalize rep (stepM q 2 (moreM len turn st 2)) F 0 q = q1 at h2 ⊢
    have h3 := rowR_tally (h2.up (i := 25) (by omega) (x := r1 25 + 1) (y := q1 25 + 1) (by rw [h2.1 25 (by omega)])) (k := 2) (by omega)
    have e9 : endM 2 q1 = tallyM 2 (upd q1 25 (q1 25 + 1)) := by
      unfold endM tallyM
      rw [if_pos rfl]
      show upd (upd q1 26 (q1 26 + 1)) 25 (upd q1 26 (q1 26 + 1) 25 + 1) = upd (upd q1 25 (q1 25 + 1)) 26 (upd q1 25 (q1 25 + 1) 26 + 1)
      rw [upd_ne (show (25 : Nat) ≠ 26 by decide), upd_ne (show (26 : Nat) ≠ 25 by decide)]
      exact fa_upd_swap q1 (by decide) _ _
    rw [e9]
    exact h3
