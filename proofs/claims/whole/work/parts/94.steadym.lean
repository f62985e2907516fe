/-! ===== steady: the reference ===== -/
theorem nxL_at (q : Nat) (R : List Int64) (hR : R.length = 14) : (nxL q R).length = 14 ∧ ∀ i, i < 14 → (nxL q R).getD i 0 = R.getD i 0 * (nI q).toInt64 + (if i = 0 then 0 else R.getD (i - 1) 0 * (16 - nI q).toInt64) := by
  match R, hR with
  | [a0, a1, a2, a3, a4, a5, a6, a7, a8, a9, a10, a11, a12, a13], _ =>
    refine ⟨rfl, fun i hi => ?_⟩
    match i, hi with
    | 0, _ => rfl
    | 1, _ => rfl
    | 2, _ => rfl
    | 3, _ => rfl
    | 4, _ => rfl
    | 5, _ => rfl
    | 6, _ => rfl
    | 7, _ => rfl
    | 8, _ => rfl
    | 9, _ => rfl
    | 10, _ => rfl
    | 11, _ => rfl
    | 12, _ => rfl
    | 13, _ => rfl
theorem rwL_len (q : Nat) : ∀ n, (rwL q n).length = 14
  | 0 => rfl
  | n + 1 => (nxL_at q (rwL q n) (rwL_len q n)).1
section STEADYM
variable {E : MEnv} {I : II} {Q : QQ}
theorem l_115 {T : TT} {part : Nat} {S tot v : Int64} (hp : part ≤ 1) (hv : v ≠ 0) (hq : Q (.inl (some (.long (stV part S tot v)))) I T) : ∀ (d : Nat) (a b : Int64), gM d a b = some v → t_M_steady_115 E I T Q (nI part) S tot a b
  | 0, a, b, h => by cases h
  | d + 1, a, b, h => by
    rw [gM] at h
    unfold t_M_steady_115 t_M_steady_137
    by_cases c : lg_cmp b 0 = 0
    · rw [if_pos c] at h
      injection h with h
      subst h
      refine bq_t c ?_
      unfold stV at hq
      by_cases p0 : part = 0
      · rw [if_pos p0] at hq
        exact bq_t (by rw [p0]; rfl) ⟨hv, hq⟩
      · rw [if_neg p0] at hq
        exact bq_f (fun y => p0 ((nI_eq (a := part) (b := 0) (by omega) (by omega)).mp y)) ⟨hv, hq⟩
    · rw [if_neg c] at h
      exact bq_f c ⟨fun e => c ((lg_cmp_eq _ _).mpr e), s_M_steady_115 (l_115 hp hv hq d _ _ h)⟩
theorem l_99 {T : TT} {part : Nat} {tot : Int64} {R : List Int64} (hR : R.length = 14) (hT : ∀ i, i < 14 → T.1 535 i = R.getD i 0) : ∀ (d j : Nat) (a : Int64), j + d = 14 → t_M_steady_115 E I T Q (nI part) ((R.drop j).foldl (fun a b => a + b) a) tot tot ((R.drop j).foldl (fun a b => a + b) a) → t_M_steady_99 E I T Q (nI part) a tot (nI j)
  | 0, j, a, hj, hq => by
    have e : j = 14 := by omega
    subst e
    unfold t_M_steady_99
    rw [List.drop_eq_nil_of_le (by omega)] at hq
    exact bq_t (by decide) hq
  | d + 1, j, a, hj, hq => by
    unfold t_M_steady_99
    refine bq_f (nI_ge (a := j) (b := 14) (by omega) (by omega)) ?_
    rw [nI_clamp (by omega), nI_1, hT j (by omega)]
    refine ⟨⟨nI_pos (by omega), by omega⟩, s_M_steady_99 (l_99 hR hT d (j + 1) _ (by omega) ?_)⟩
    have e : R.drop j = R.getD j 0 :: R.drop (j + 1) := by
      rw [List.drop_eq_getElem_cons (by omega), List.getD_eq_getElem?_getD, List.getElem?_eq_getElem (by omega)]
      rfl
    rw [e, List.foldl_cons] at hq
    exact hq
theorem m1_14 : ∀ i : Fin 14, (nI (i.val + 1) + (-1) : Int32) = nI i.val := by decide +kernel
theorem l_56 {n k q part s : Nat} {R : List Int64} (hR : R.length = 14) {T0 : TT} : ∀ (i : Nat) (T : TT), i < 14 → T.2 = T0.2 → (∀ c, c ≠ 535 → T.1 c = T0.1 c) → (∀ j, j < 14 → T.1 535 j = if j ≤ i then R.getD j 0 else (nxL q R).getD j 0) → (∀ T' : TT, T'.2 = T0.2 → (∀ c, c ≠ 535 → T'.1 c = T0.1 c) → (∀ j, j < 14 → T'.1 535 j = (nxL q R).getD j 0) → t_M_steady_51 E I T' Q (nI n) (nI k) (nI q) (nI part) (nI (s + 1))) → t_M_steady_56 E I T Q (nI n) (nI k) (nI q) (nI part) (nI s) (nI i)
  | 0, T, hi, h2, hc, hr, hq => by
    unfold t_M_steady_56 t_M_steady_83
    refine bq_f (by decide) ⟨by decide, bq_t (by decide) ⟨by decide, ?_⟩⟩
    refine s_M_steady_56 ?_
    unfold t_M_steady_56
    refine bq_t (by decide) ?_
    rw [nI_1]
    refine s_M_steady_51 (hq _ h2 (fun c h => ?_) (fun j hj => ?_))
    · show (m_up T.1 535 _ _) c = _
      rw [m_up_ne h]; exact hc c h
    · have z0 : (nI 0).toNatClampNeg = 0 := by decide
      show (m_up T.1 535 (nI 0).toNatClampNeg (T.1 535 (nI 0).toNatClampNeg * (nI q).toInt64 + 0)) 535 j = _
      rw [z0, m_up_at]
      by_cases e : j = 0
      · rw [if_pos e, e, (nxL_at q R hR).2 0 (by omega), if_pos rfl, hr 0 (by omega), if_pos (Nat.le_refl _)]
      · rw [if_neg e, hr j hj, if_neg (by omega)]
  | i + 1, T, hi, h2, hc, hr, hq => by
    unfold t_M_steady_56 t_M_steady_83
    have e1 : (nI (i + 1) - 1 : Int32) = nI i := nI_pred i
    rw [e1, m1_14 ⟨i, by omega⟩, nI_clamp (by omega), nI_clamp (by omega)]
    refine bq_f (nI_pos (by omega)) ⟨⟨nI_pos (by omega), hi⟩, bq_f (nI_ge (a := 0) (b := i + 1) (by omega) (by omega)) ⟨⟨nI_pos (by omega), by omega⟩, ⟨nI_pos (by omega), hi⟩, ?_⟩⟩
    refine s_M_steady_56 (l_56 hR i _ (by omega) h2 (fun c h => ?_) (fun j hj => ?_) hq)
    · show (m_up T.1 535 _ _) c = _
      rw [m_up_ne h]; exact hc c h
    · show (m_up T.1 535 (i + 1) _) 535 j = _
      rw [m_up_at]
      by_cases e : j = i + 1
      · rw [if_pos e, if_neg (by omega), e, (nxL_at q R hR).2 (i + 1) hi, if_neg (by omega), hr (i + 1) hi, if_pos (Nat.le_refl _), hr i (by omega), if_pos (by omega)]
        rfl
      · rw [if_neg e, hr j hj]
        by_cases c : j ≤ i
        · rw [if_pos c, if_pos (by omega)]
        · rw [if_neg c, if_neg (by omega)]
end STEADYM
