/-! ===== contracts: the LAW by the reference; FORCE ===== -/
theorem lawS_congr {cd : Nat → Nat × Int32} {n : Nat} {dep : Nat → Nat} (hw : lawW cd n dep) {u w : Nat → Int32} (hu : ∀ j, j < 8 → u j = w j) : ∀ (d k : Nat) (s s' : Nat → Int32), k + d = n → (∀ j, j < dep k → s j = s' j) → (∀ j, j < dep n → (lawS u cd d k (s, dep k)).1 j = (lawS w cd d k (s', dep k)).1 j)
  | 0, k, s, s', hk, h => by
    intro j hj
    have : k = n := by omega
    subst this
    exact h j hj
  | d + 1, k, s, s', hk, h => by
    unfold lawS
    rw [rep, rep]
    rcases hw.2.2.2 k (by omega) with ⟨h1, h2, h3, v, hv, hv2, hv3⟩ | ⟨h1, h2, h3, h4, h5⟩
    · by_cases h0 : (cd k).1 = 0
      · have e1 : ∀ x t, lstep x (cd k) (t, dep k) = (upd t (dep k) (nI v), dep (k + 1)) := fun x t => by unfold lstep; rw [if_pos h0, hv2, h2]
        rw [e1, e1]
        refine lawS_congr hw hu d (k + 1) _ _ (by omega) (fun j hj => ?_)
        unfold upd
        by_cases e : j = dep k
        · rw [if_pos e, if_pos e]
        · rw [if_neg e, if_neg e]; exact h j (by omega)
      · have h01 : (cd k).1 = 1 := by omega
        have e1 : ∀ x t, lstep x (cd k) (t, dep k) = (upd t (dep k) (x v), dep (k + 1)) := fun x t => by unfold lstep; rw [if_neg h0, if_pos h01, hv2, nI_clamp (by omega), h2]
        rw [e1, e1]
        refine lawS_congr hw hu d (k + 1) _ _ (by omega) (fun j hj => ?_)
        unfold upd
        by_cases e : j = dep k
        · rw [if_pos e, if_pos e]; exact hu v (hv3 h01)
        · rw [if_neg e, if_neg e]; exact h j (by omega)
    · obtain ⟨e, he⟩ : ∃ e, dep k = e + 2 := ⟨dep k - 2, by omega⟩
      have e1 : ∀ x t, lstep x (cd k) (t, dep k) = (upd t e (jn (cd k).1 (t e) (t (e + 1))), dep (k + 1)) := fun x t => by
        unfold lstep
        rw [if_neg (by omega), if_neg (by omega)]
        simp only [he]
        rw [show dep (k + 1) = e + 2 - 1 by omega]
        rfl
      rw [e1, e1]
      refine lawS_congr hw hu d (k + 1) _ _ (by omega) (fun j hj => ?_)
      unfold upd
      by_cases ee : j = e
      · rw [if_pos ee, if_pos ee, h e (by omega), h (e + 1) (by omega)]
      · rw [if_neg ee, if_neg ee]; exact h j (by omega)
/-- FORCE by codes and variables -/
def lawF (n : Nat) (cd : Nat → Nat × Int32) (vars : Nat → Int32) : Int32 := clampC ((lawS vars cd n 0 (fun _ => 0, 0)).1 0)
theorem lawF_of {cd : Nat → Nat × Int32} {n : Nat} {dep : Nat → Nat} (hw : lawW cd n dep) {u w : Nat → Int32} (hu : ∀ j, j < 8 → u j = w j) (s : Nat → Int32) : clampC ((lawS u cd n 0 (s, 0)).1 0) = lawF n cd w := by
  have h := lawS_congr hw hu n 0 s (fun _ => 0) (by omega) (fun j hj => by rw [hw.1] at hj; omega) 0 (by have := hw.2.1; omega)
  rw [hw.1] at h
  unfold lawF
  rw [h]
/-- the first LAW -/
def cd0 (k : Nat) : Nat × Int32 := [(1, 0), (1, 2), (2, 0), (1, 3), (0, 4), (5, 0), (3, 0)].getD k (0, 0)
def dep0 (k : Nat) : Nat := [0, 1, 2, 1, 2, 3, 2, 1].getD k 0
theorem lawW0 : lawW cd0 7 dep0 := by
  refine ⟨rfl, by decide, by decide, fun k hk => ?_⟩
  match k, hk with
  | 0, _ => exact Or.inl ⟨by decide, rfl, by decide, 0, by decide, rfl, fun _ => by decide⟩
  | 1, _ => exact Or.inl ⟨by decide, rfl, by decide, 2, by decide, rfl, fun _ => by decide⟩
  | 2, _ => exact Or.inr ⟨by decide, by decide, by decide, by decide, rfl⟩
  | 3, _ => exact Or.inl ⟨by decide, rfl, by decide, 3, by decide, rfl, fun _ => by decide⟩
  | 4, _ => exact Or.inl ⟨by decide, rfl, by decide, 4, by decide, rfl, fun q => by cases q⟩
  | 5, _ => exact Or.inr ⟨by decide, by decide, by decide, by decide, rfl⟩
  | 6, _ => exact Or.inr ⟨by decide, by decide, by decide, by decide, rfl⟩
  | k + 7, h => exact absurd h (by omega)
theorem lawF0 (vars : Nat → Int32) : lawF 7 cd0 vars = clampC (vars 0 + vars 2 - vars 3 / 4) := rfl
/-- class and reference have one LAW -/
def lawR (I : II) (n : Nat) (cd : Nat → Nat × Int32) : Prop := (∃ dep, lawW cd n dep) ∧ lawC I n cd ∧ ((1 ≤ n ∧ lawM I n cd) ∨ (I 46 19 = 0 ∧ n = 7 ∧ cd = cd0))
section LAW2
variable {E : MEnv} {I : II} {T : TT} {Q : QQ} {F S : Nat}
theorem l_out (s : Nat → Int32) (hq : Q (.inl (some (.int (clampM (s 0))))) (m_row I 425 s) T) : ev E 163 0 [some (.int 0), some (.int ((m_row I 425 s) 425 0))] [] (m_row I 425 s) T (KI (fun v1 I1 T1 => ev E 162 0 [some (.int 60), some (.int v1)] [] I1 T1 (KI (fun v2 I2 T2 => Q (.inl (some (.int v2))) I2 T2) (fun _ _ _ => False))) (fun _ _ _ => False)) := by
  refine p_more _ _ ?_
  refine p_less _ _ ?_
  exact hq
set_option maxHeartbeats 1000000 in
theorem l_byLaw {cd : Nat → Nat × Int32} {n : Nat} {dep : Nat → Nat} (hw : lawW cd n dep) (hm : lawM I n cd) : ∀ (d k : Nat) (s : Nat → Int32), k + d = n → Q (.inl (some (.int (clampM ((lawS (I 426) cd d k (s, dep k)).1 0))))) (m_row I 425 (lawS (I 426) cd d k (s, dep k)).1) T → t_M_byLaw_24 E (m_row I 425 s) T Q (nI (dep k)) (nI k)
  | 0, k, s, hk, hq => by
    have hn := hw.2.2.1
    unfold t_M_byLaw_24
    refine ⟨fun _ => l_out s hq, fun q => absurd (nI_le (a := n) (b := k) (by omega) (by omega)) ?_⟩
    rw [← hm.1]
    exact q
  | d + 1, k, s, hk, hq => by
    have hn := hw.2.2.1
    have r1 : ∀ j, (m_row I 425 s) (86 + k) j = I (86 + k) j := fun j => by rw [m_row_ne (by omega)]
    have r2 : ∀ j, (m_row I 425 s) 426 j = I 426 j := fun j => rfl
    have r3 : ∀ j, (m_row I 425 s) 425 j = s j := fun j => rfl
    obtain ⟨m1, m2⟩ := hm.2 k (by omega)
    have gk : ¬ nI k < 0 ∧ k < 160 := ⟨nI_pos (by omega), by omega⟩
    unfold t_M_byLaw_24
    refine ⟨fun q => absurd q ?_, fun _ => ?_⟩
    · have : (m_row I 425 s) 46 19 = nI n := hm.1
      rw [this]
      exact nI_ge (by omega) (by omega)
    · rw [nI_clamp (show k < 2 ^ 31 by omega), r1, r1, m1, m2]
      refine ⟨gk, ?_⟩
      unfold lawS at hq
      rw [rep] at hq
      rcases hw.2.2.2 k (by omega) with ⟨h1, h2, h3, v, hv, hv2, hv3⟩ | ⟨h1, h2, h3, h4, h5⟩
      · refine ⟨fun q => absurd q (nI_ge (a := (cd k).1) (b := 2) (by omega) (by omega)), fun _ => ⟨gk, ?_⟩⟩
        by_cases h0 : (cd k).1 = 0
        · have es : lstep (I 426) (cd k) (s, dep k) = (upd s (dep k) (nI v), dep (k + 1)) := by unfold lstep; rw [if_pos h0, hv2, h2]
          rw [es] at hq
          refine ⟨fun _ => ⟨gk, ?_⟩, fun q => absurd (by rw [h0]; rfl) q⟩
          rw [hv2]
          unfold t_M_byLaw_62 t_M_byLaw_89
          refine ⟨gix (by omega) (by omega), ?_⟩
          rw [nI_clamp (by omega), up_row, nI_1, nI_1, ← h2]
          exact s_M_byLaw_24 (l_byLaw hw hm d (k + 1) _ (by omega) hq)
        · have h01 : (cd k).1 = 1 := by omega
          have hv8 := hv3 h01
          have es : lstep (I 426) (cd k) (s, dep k) = (upd s (dep k) (I 426 v), dep (k + 1)) := by unfold lstep; rw [if_neg h0, if_pos h01, hv2, nI_clamp (by omega), h2]
          rw [es] at hq
          refine ⟨fun q => absurd q (by rw [h01]; decide), fun _ => ⟨gk, ?_⟩⟩
          rw [hv2]
          refine ⟨gix hv8 (by omega), ?_⟩
          rw [nI_clamp (show v < 2 ^ 31 by omega), r2]
          unfold t_M_byLaw_62 t_M_byLaw_89
          refine ⟨gix (by omega) (by omega), ?_⟩
          rw [nI_clamp (by omega), up_row, nI_1, nI_1, ← h2]
          exact s_M_byLaw_24 (l_byLaw hw hm d (k + 1) _ (by omega) hq)
      · obtain ⟨e, he⟩ : ∃ e, dep k = e + 2 := ⟨dep k - 2, by omega⟩
        have he2 : dep (k + 1) = e + 1 := by omega
        have es : lstep (I 426) (cd k) (s, dep k) = (upd s e (jn (cd k).1 (s e) (s (e + 1))), dep (k + 1)) := by
          unfold lstep
          rw [if_neg (by omega), if_neg (by omega)]
          simp only [he, he2]
          rfl
        rw [es] at hq
        have x1 : nI (dep k) + (-1) = nI (e + 1) := by rw [he]; exact pk_m1 (e + 1)
        have x2 : nI (e + 1) - 1 = nI e := nI_pred e
        refine ⟨fun _ => ⟨gk, ?_⟩, fun q => absurd (nI_le (a := 2) (b := (cd k).1) (by omega) (by omega)) q⟩
        rw [x1, x2]
        refine ⟨gix (by omega) (by omega), gix (by omega) (by omega), ?_⟩
        rw [nI_clamp (show e < 2 ^ 31 by omega), nI_clamp (show e + 1 < 2 ^ 31 by omega), r3, r3]
        refine p_by h1 h2 _ _ ?_
        refine ⟨⟨nI_pos (n := e) (by omega), (by omega : e < 160)⟩, ?_⟩
        unfold t_M_byLaw_89
        rw [up_row, nI_1]
        have h9 := l_byLaw hw hm d (k + 1) (upd s e (jn (cd k).1 (s e) (s (e + 1)))) (by omega) hq
        rw [he2] at h9
        exact s_M_byLaw_24 h9
/-- the reference's FORCE by its variables -/
theorem p_byLaw {cd : Nat → Nat × Int32} {n : Nat} (hr : lawR I n cd) (hq : ∀ s : Nat → Int32, Q (.inl (some (.int (lawF n cd (I 426))))) (m_row I 425 s) T) : ev E 160 0 [some (.ref 46), none, none] [] I T Q := by
  refine s_M_byLaw_0 ?_
  unfold t_M_byLaw_0
  obtain ⟨⟨dep, hw⟩, hc, hr⟩ := hr
  have e0 : m_up I 425 0 ((I 426 0 + I 426 2) - (I 426 3 / 4)) = m_row I 425 (upd (I 425) 0 ((I 426 0 + I 426 2) - (I 426 3 / 4))) := by
    have := up_row I 425 0 (I 425) ((I 426 0 + I 426 2) - (I 426 3 / 4))
    rw [row_self] at this
    exact this
  rw [e0]
  rcases hr with ⟨h1, hm⟩ | ⟨h0, rfl, rfl⟩
  · have h := l_byLaw (E := E) (Q := Q) (T := T) hw hm n 0 (upd (I 425) 0 ((I 426 0 + I 426 2) - (I 426 3 / 4))) (by omega) (by
      rw [hw.1, ← clamp_eq, lawF_of hw (fun _ _ => rfl)]
      exact hq _)
    rw [hw.1] at h
    exact h
  · unfold t_M_byLaw_24
    refine ⟨fun _ => l_out _ ?_, fun q => absurd ?_ q⟩
    · have := hq (upd (I 425) 0 ((I 426 0 + I 426 2) - (I 426 3 / 4)))
      rw [lawF0, clamp_eq] at this
      exact this
    · show I 46 19 ≤ 0
      rw [h0]
      decide
/-- the class's FORCE by its variables -/
theorem p_answer2 {cd : Nat → Nat × Int32} {n : Nat} (hr : lawR I n cd) (hq : ∀ s : Nat → Int32, Q (.inl (some (.int (lawF n cd (I 18))))) (m_row I 19 s) T) : ev E 130 0 [some (.ref 15), none, none, none] [] I T Q := by
  obtain ⟨⟨dep, hw⟩, hc, -⟩ := hr
  refine p_answer hw hc ?_
  rw [lawF_of hw (fun _ _ => rfl)]
  exact hq _
end LAW2
