/-! ===== work: the case ===== -/
section WORKO
variable {E : MEnv} {I : II} {T : TT} {Q : QQ} {N F : Nat} {w : Nat → Nat}
theorem mq_work {X : Nat × (Nat → Int32)} {t wk : Nat} (hF : F ≤ 8) (ht : t ≤ 600) (h461 : I 46 1 = nI t) (hN : N ≤ t ∧ N ≤ 150) (h34 : I 46 34 = nI wk) (hwk : wk < 16) (h50 : I 50 0 = nI F) (hb : ∀ j, j < t → w j < 256 ∧ I 47 j = nI (w j)) (h1 : ∀ σ p', lstD N w F 7 0 st0 = .inr (σ, p') → ∀ K, (∀ c, c ≠ 46 → ¬ (428 ≤ c ∧ c < 508) → K c = I c) → (∀ j, 9 ≤ j → j ≠ 28 → K 46 j = I 46 j) → K 46 0 = 0 → K 46 1 = 0 → K 46 5 = 0 → K 46 28 = nI σ.1 → (∀ k, k < σ.1 → eM K k (σ.2 k)) → t_M_work_53 (16, X) K T Q) (h0 : ∀ k q, lstD N w F 7 0 st0 = .inl (k, q) → ∀ K, (∀ c, c ≠ 46 → ¬ (428 ≤ c ∧ c < 508) → K c = I c) → (∀ j, 9 ≤ j → j ≠ 28 → K 46 j = I 46 j) → K 46 0 = 0 → K 46 1 = 0 → K 46 3 = nI q → Q (.inl (some (.int (nI k - 10)))) K T) : ev (16, X) 144 0 [some (.ref 46), some (.int (nI N))] [] I T Q := by
  refine s_M_work_0 ?_
  unfold t_M_work_0
  show ev (16, X) 57 0 [some (.int (nI N)), some (.int 0), some (.int (I 46 1))] [] _ T _
  rw [h461]
  refine q_in _ _ _ ?_
  rw [wI_n hN.1 (by omega)]
  refine bq_f (by decide) (bq_t (nI_le (a := N) (b := 150) hN.2 (by omega)) ?_)
  unfold t_M_work_16
  refine qm_bad0 rfl _ _ (bq_t rfl ?_)
  have e34 : (m_up I 46 0 0) 46 34 = nI wk := h34
  rw [e34]
  refine bq_f (fun z => absurd ((nI_eq (a := wk) (b := 16) (by omega) (by omega)).mp z) (by omega)) ?_
  refine qn_starts hN.1 ht hb (fun J frJ o46 tJ _ j8 => ?_)
  have eC : ∀ c, c ≠ 46 → J c = I c := fun c hc => by rw [frJ c (by simpa using hc), m_up_ne hc]
  have k46 : ∀ {K : II} (j : Nat), ft 0 (m_up J 46 28 0) K → (j = 0 ∨ 9 ≤ j) → j ≠ 28 → K 46 j = if j = 0 then 0 else I 46 j := fun {K} j f hj h28 => by
    rw [f.2.1 j (by omega) (by omega) (by omega) (by omega) h28, m_up_at, if_neg h28, o46 j (by omega), m_up_at]
  have kC : ∀ {K : II} (c : Nat), ft 0 (m_up J 46 28 0) K → c ≠ 46 → ¬ (428 ≤ c ∧ c < 508) → K c = I c := fun c f a b => by rw [f.1 c a b, m_up_ne a, eC c a]
  refine qn_plan hF hN.2 (tM_28 tJ) rfl (by show J 50 0 = _; rw [eC 50 (by decide)]; exact h50) j8 (fun σ p' e K f tK n c => ?_) (fun k q e K f g => ?_)
  · refine h1 σ p' e K (fun c a b => kC c f a b) (fun j a b => by rw [k46 j f (by omega) b, if_neg (by omega)]) ?_ tK.1.2.1 tK.2.2.2.1 n c
    rw [k46 0 f (by omega) (by omega), if_pos rfl]
  · unfold t_M_work_53
    refine bq_f (fM_ne g) (qn_ends ?_)
    show Q (.inl (some (.int (K 46 5 - 10)))) (m_up K 46 3 (K 46 6)) T
    rw [g.2.1, g.2.2.2.1]
    refine h0 k q e _ (fun c a b => by rw [m_up_ne a]; exact kC c f a b) (fun j a b => ?_) ?_ ?_ rfl
    · rw [m_up_at, if_neg (by omega), k46 j f (by omega) b, if_neg (by omega)]
    · rw [m_up_at, if_neg (by omega), k46 0 f (by omega) (by omega), if_pos rfl]
    · rw [m_up_at, if_neg (by omega)]; exact g.1.2.1
theorem mq_work16 {t : Nat} (ht : t ≤ 600) (h461 : I 46 1 = nI t) (hN : N ≤ t ∧ N ≤ 150) (h34 : I 46 34 = nI 16) (hq : Q (.inl (some (.int (-20)))) (m_up (m_up (m_up I 46 0 0) 46 1 0) 46 3 (-1)) T) : ev E 144 0 [some (.ref 46), some (.int (nI N))] [] I T Q := by
  refine s_M_work_0 ?_
  unfold t_M_work_0
  show ev E 57 0 [some (.int (nI N)), some (.int 0), some (.int (I 46 1))] [] _ T _
  rw [h461]
  refine q_in _ _ _ ?_
  rw [wI_n hN.1 (by omega)]
  refine bq_f (by decide) (bq_t (nI_le (a := N) (b := 150) hN.2 (by omega)) ?_)
  unfold t_M_work_16
  refine qm_bad0 rfl _ _ (bq_t rfl ?_)
  exact bq_t h34 hq
theorem mq_work_b {t : Nat} {x : Int32} (ht : t ≤ 600) (h461 : I 46 1 = nI t) (c : ¬ ∃ n, n ≤ t ∧ n ≤ 150 ∧ x = nI n) (hq : ∀ v J, ro (m_up I 48 1 (I 48 1 + 1)) J → J 46 0 = 1 → Q (.inl (some (.int v))) J T) : ev E 144 0 [some (.ref 46), some (.int x)] [] I T Q := by
  refine s_M_work_0 ?_
  unfold t_M_work_0
  show ev E 57 0 [some (.int x), some (.int 0), some (.int (I 46 1))] [] _ T _
  rw [h461]
  refine q_in _ _ _ ?_
  have fin : t_M_work_13 E (m_up I 46 0 0) T Q x := by
    unfold t_M_work_13 t_M_work_16
    refine qm_bad1 (j := 1) rfl (by decide) (by decide) ?_
    exact bq_f (by decide) (hq _ _ (ro_bad I _ _) rfl)
  by_cases d : okW x 0 (nI t)
  · rw [wI_t d]
    obtain ⟨j, h2, rfl⟩ := okW_nat (by omega) d
    have : 150 < j := Nat.lt_of_not_le (fun z => c ⟨j, h2, z, rfl⟩)
    exact bq_f (by decide) (bq_f (nI_ge (a := 150) (b := j) (by omega) (by omega)) fin)
  · rw [wI_f d]
    exact bq_t rfl fin
theorem o_work (hE : E.1 = 16) : op_ok Inv E t_W_main_152 := by
  obtain ⟨e, X⟩ := E
  have hE2 : e = 16 := hE
  subst hE2
  intro I T Q i m hI hT hm hi hL hn
  have hG := TI_g hT hm
  obtain ⟨F, S, n, cd, hA⟩ := hI
  have hF := hA.1.F8
  unfold t_W_main_152
  generalize (16, X).2.2 (nI i + 1).toNatClampNeg = a
  refine ⟨gsc 1 hi hL (by decide), ?_⟩
  refine s_W_work_0 ?_
  unfold t_W_work_0 t_W_work_9
  refine s_X_work_0 ?_
  unfold t_X_work_0
  obtain ⟨t, w, ht, h11, h461, hb⟩ := Tx_w hA.2.2.2.2.1
  obtain ⟨wk, w16, k323, k4634, hsh⟩ := hA.2.2.1
  refine q_needText (m := 150) hG ht (by omega) h11 a (fun ⟨N, hN1, hN2, e⟩ => ?_) (fun c => ?_)
  · subst e
    show (I 32 3 < 16 → _) ∧ (¬ I 32 3 < 16 → _)
    rw [k323]
    by_cases cw : wk < 16
    · refine bq_t (nI_lt (a := wk) (b := 16) cw (by omega)) ?_
      refine q_begin hN1 ht (fun j hj => ⟨(hb j hj).1, (hb j hj).2.2⟩) (fun J1 fr1 t1 => ?_)
      have e3 : J1 3 5 = nI F := by rw [fr1 3 (by decide)]; exact hA.1.1.1
      show ev (16, X) 96 0 [some (.ref 23), some (.ref 1), some (.int (J1 3 5))] [] J1 T _
      rw [e3]
      refine q_planRead hF hN2 t1 (fun σ p' eR K fK tK k5 cK => ?_) (fun k q eR K fK g => ?_)
      · have sl := sL_lstD (w := w) (F := F) 7 0 st0 σ p' (Nat.zero_le N) (Nat.le_refl _) eR σ.2 (fun _ _ _ => rfl)
        have sg := gS_lstD (w := w) (F := F) 7 0 st0 σ p' (Nat.zero_le N) (Nat.le_refl _) eR
        have c30 : σ.1 ≤ 30 := by omega
        refine q_isFine_t tK (bq_f (by decide) ?_)
        refine s_Search_forget_0 ?_
        unfold t_Search_forget_0
        refine s_Shelf_keepWork_28_0 ?_
        unfold t_Shelf_keepWork_28_0 t_Shelf_keepWork_28_18
        have k32 : (m_up K 36 5 0) 32 3 = nI wk := by rw [m_up_ne (by decide), fK 32 (by decide), fr1 32 (by decide)]; exact k323
        rw [k32]
        refine bq_f (nI_ge (a := wk) (b := 16) (by omega) (by omega)) ?_
        refine p_save33 (w := wk) (by omega) ?_
        have k32b : (m_row (m_up K 36 5 0) 33 (va_cpy ((m_up K 36 5 0) 29) ((m_up K 36 5 0) 33) 0 (29 * wk) 29)) 32 3 + 1 = nI (wk + 1) := by
          rw [m_row_ne (by decide), k32]; exact nI_1 _
        show ev (16, X) 101 0 [some (.ref 23)] [] (m_up (m_row (m_up K 36 5 0) 33 (va_cpy ((m_up K 36 5 0) 29) ((m_up K 36 5 0) 33) 0 (29 * wk) 29)) 32 3 ((m_row (m_up K 36 5 0) 33 (va_cpy ((m_up K 36 5 0) 29) ((m_up K 36 5 0) 33) 0 (29 * wk) 29)) 32 3 + 1)) T _
        rw [k32b]
        refine s_Plan_prepare_0 ?_
        unfold t_Plan_prepare_0
        generalize hB : m_up (m_up (m_up (m_up (m_row (m_up K 36 5 0) 33 (va_cpy ((m_up K 36 5 0) 29) ((m_up K 36 5 0) 33) 0 (29 * wk) 29)) 32 3 (nI (wk + 1))) 23 6 0) 23 7 0) 23 8 0 = B
        have bK : ∀ c, c ≠ 23 → c ≠ 32 → c ≠ 33 → c ≠ 36 → B c = K c := fun c a b d e => by rw [← hB, m_up_ne a, m_up_ne a, m_up_ne a, m_up_ne b, m_row_ne d, m_up_ne e]
        have bI : ∀ c, c ∉ [1, 23, 24, 25, 26, 27, 32, 33, 36] → B c = I c := fun c hc => by
          have hc' : c ≠ 1 ∧ c ≠ 23 ∧ c ≠ 24 ∧ c ≠ 25 ∧ c ≠ 26 ∧ c ≠ 27 ∧ c ≠ 32 ∧ c ≠ 33 ∧ c ≠ 36 := by simp at hc; omega
          rw [bK c (by omega) (by omega) (by omega) (by omega), fK c (by simp; omega), fr1 c (by simp; omega)]
        have b5 : B 23 5 = nI σ.1 := by rw [← hB]; exact k5
        have b32 : B 32 3 = nI (wk + 1) ∧ B 32 4 = I 32 4 := by
          rw [← hB]
          refine ⟨rfl, ?_⟩
          show K 32 4 = _
          rw [fK 32 (by decide), fr1 32 (by decide)]
        have b36 : B 36 5 = 0 := by rw [← hB]; rfl
        have b33 : B 33 = va_cpy (I 29) (I 33) 0 (29 * wk) 29 := by
          rw [← hB, m_up_ne (by decide), m_up_ne (by decide), m_up_ne (by decide), m_up_ne (by decide), m_row_at, m_up_ne (by decide), m_up_ne (by decide), fK 29 (by decide), fr1 29 (by decide), fK 33 (by decide), fr1 33 (by decide)]
        have hst : ∀ k, k < σ.1 → eC B k (σ.2 k) := fun k hk => by
          have := cK k hk
          unfold eC at this ⊢
          rw [bK 24 (by omega) (by omega) (by omega) (by omega), bK 25 (by omega) (by omega) (by omega) (by omega), bK 26 (by omega) (by omega) (by omega) (by omega), bK 27 (by omega) (by omega) (by omega) (by omega)]
          exact this
        have hCB : Core B F S n cd := hA.1.of (fun c hc => bI c (by unfold coreC at hc; simp; omega)) (by rw [bI 46 (by decide)]) (by rw [bI 29 (by decide), bI 508 (by decide)]; exact hA.1.2.2.2.2.2.2.1) (by rw [bI 29 (by decide)]; exact hA.1.rv)
        show ev (16, X) 102 0 [some (.ref 23), some (.ref 28), some (.int 0), some (.int (B 23 5)), some (.int 0), none, none] [] B T _
        rw [b5]
        refine x_run hCB c30 hst 7 0 16 (by omega) (by omega) B T _ 0 σ.1 (B 29, 0, 0, 0) ⟨FR.refl _ _, fun _ _ => rfl⟩ ⟨rfl, by rw [← hB]; rfl, by rw [← hB]; rfl, by rw [← hB]; rfl, hCB.rv, by show 0 ≤ 200; omega⟩ sl (Nat.le_refl _) (fun J hJ sJ => ?_)
        generalize hs : rnD (stW B F S n cd) σ.2 7 0 σ.1 (B 29, 0, 0, 0) = s at sJ
        have j8 := sJ.2.2.2.1
        have j7 := sJ.2.2.1
        show (fun v1 I1 T1 => _) _ _ _
        refine ⟨gsc 1 hi hL (by decide), ?_⟩
        generalize hC' : m_up J 0 13 (J 23 8) = C
        have cJ : ∀ c, c ≠ 0 → C c = J c := fun c h => by rw [← hC', m_up_ne h]
        have cB : ∀ c, c ≠ 0 → c ≠ 18 → c ≠ 19 → c ≠ 23 → c ≠ 28 → c ≠ 29 → C c = B c := fun c h1 h2 h3 h4 h5 h6 => by rw [cJ c h1, hJ.1 c (by simp; omega)]
        have c46 : C 46 = I 46 := by rw [cB 46 (by omega) (by omega) (by omega) (by omega) (by omega) (by omega), bI 46 (by decide)]
        have c47 : C 47 = I 47 := by rw [cB 47 (by omega) (by omega) (by omega) (by omega) (by omega) (by omega), bI 47 (by decide)]
        have c50 : C 50 0 = nI F := by rw [cB 50 (by omega) (by omega) (by omega) (by omega) (by omega) (by omega), bI 50 (by decide)]; exact hA.1.2.1.1
        refine mq_work (w := w) hF ht (by rw [c46]; exact h461) ⟨hN1, hN2⟩ (by rw [c46]; exact k4634) cw c50 (fun j hj => by rw [c47]; exact ⟨(hb j hj).1, (hb j hj).2.1⟩) (fun σ' p2 eR' K2 a1 a2 a3 a4 a5 a6 a7 => ?_) (fun k q eR' => ?_)
        · have eq : (Sum.inr (σ, p') : RS ST) = Sum.inr (σ', p2) := by rw [← eR, ← eR']; rfl
          have es : σ = σ' := by injection eq with eq; injection eq
          subst es
          unfold t_M_work_53
          refine bq_t a5 ?_
          have e34 : (m_up K2 46 3 (-1)) 46 34 = nI wk := by show K2 46 34 = _; rw [a2 34 (by omega) (by omega), c46]; exact k4634
          rw [e34, nI_clamp (by omega)]
          refine ⟨⟨nI_pos (by omega), cw⟩, ?_⟩
          refine p_copies8R (KF_510 cw) (by omega) (fun rr hrr => ?_)
          have e34b : (m_row (m_up K2 46 3 (-1)) (511 + wk) rr) 46 34 + 1 = nI (wk + 1) := by rw [m_row_ne (by omega), e34]; exact nI_1 _
          show ev (16, X) 148 0 [some (.ref 46), some (.int 0), some (.int ((m_up (m_up (m_up (m_up (m_row (m_up K2 46 3 (-1)) (511 + wk) rr) 46 34 ((m_row (m_up K2 46 3 (-1)) (511 + wk) rr) 46 34 + 1)) 46 38 0) 46 39 0) 46 35 0) 46 28)), none, none] [] (m_up (m_up (m_up (m_up (m_row (m_up K2 46 3 (-1)) (511 + wk) rr) 46 34 ((m_row (m_up K2 46 3 (-1)) (511 + wk) rr) 46 34 + 1)) 46 38 0) 46 39 0) 46 35 0) _ _
          rw [e34b]
          generalize hR : m_up (m_up (m_up (m_up (m_row (m_up K2 46 3 (-1)) (511 + wk) rr) 46 34 (nI (wk + 1))) 46 38 0) 46 39 0) 46 35 0 = R
          have rC : ∀ c, c ≠ 46 → c ≠ 511 + wk → ¬ (428 ≤ c ∧ c < 508) → R c = C c := fun c a b d => by rw [← hR, m_up_ne a, m_up_ne a, m_up_ne a, m_up_ne a, m_row_ne b, m_up_ne a, a1 c a d]
          have r46 : ∀ j, j ≠ 3 → j ≠ 34 → j ≠ 35 → j ≠ 38 → j ≠ 39 → R 46 j = K2 46 j := fun j a b c d e => by
            rw [← hR, m_up_at, if_neg c, m_up_at, if_neg e, m_up_at, if_neg d, m_up_at, if_neg b, m_row_ne (by omega), m_up_at, if_neg a]
          have r28 : R 46 28 = nI σ.1 := by rw [r46 28 (by omega) (by omega) (by omega) (by omega) (by omega)]; exact a6
          rw [r28]
          have r3 : R 46 3 = -1 ∧ R 46 34 = nI (wk + 1) := by
            rw [← hR]
            refine ⟨?_, rfl⟩
            rw [m_up_at, if_neg (by omega), m_up_at, if_neg (by omega), m_up_at, if_neg (by omega), m_up_at, if_neg (by omega), m_row_ne (by omega)]
            rfl
          have r508 : R 508 = I 508 := by rw [rC 508 (by omega) (by omega) (by omega), cB 508 (by omega) (by omega) (by omega) (by omega) (by omega) (by omega), bI 508 (by decide)]
          have rrow : R (511 + wk) = rr := by rw [← hR, m_up_ne (by omega), m_up_ne (by omega), m_up_ne (by omega), m_up_ne (by omega), m_row_at]
          have hrr2 : ∀ j, j < 29 → rr j = I 508 j := fun j hj => by
            rw [hrr j hj, m_up_ne (by decide), a1 508 (by omega) (by omega), cB 508 (by omega) (by omega) (by omega) (by omega) (by omega) (by omega), bI 508 (by decide)]
          have hrm : rm B R := ⟨fun c hc => by
            unfold coreC at hc
            rw [rC c (by omega) (by omega) (by omega), cB c (by omega) (by omega) (by omega) (by omega) (by omega) (by omega)], by rw [r46 19 (by omega) (by omega) (by omega) (by omega) (by omega), a2 19 (by omega) (by omega), c46, bI 46 (by decide)]⟩
          have hst2 : ∀ k, k < σ.1 → eM R k (σ.2 k) := fun k hk => (a7 k hk).of (by rw [← hR, m_up_ne (by omega), m_up_ne (by omega), m_up_ne (by omega), m_up_ne (by omega), m_row_ne (by omega), m_up_ne (by omega)])
          refine m_runD hCB c30 hst2 7 16 (by omega) R _ _ 0 σ.1 (B 29, 0, 0, 0) ⟨hrm, fun _ _ _ _ _ => rfl, fun _ _ _ _ => rfl⟩ ⟨by rw [r508, ← bI 508 (by decide)]; exact hCB.2.2.2.2.2.2.1, by rw [← hR]; rfl, by rw [← hR]; rfl, by rw [← hR]; rfl, hCB.rv, by show 0 ≤ 200; omega⟩ sl (Nat.le_refl _) (fun L hL' sL' => ?_)
          rw [hs] at sL'
          obtain ⟨hrmL, lC, l46⟩ := hL'
          show (fun v2 I2 T2 => _) _ _ _
          have lI : ∀ c, c ∉ [0, 1, 18, 19, 23, 24, 25, 26, 27, 28, 29, 32, 33, 36, 46, 425, 426, 508] → c ≠ 511 + wk → ¬ (428 ≤ c ∧ c < 508) → L c = I c := fun c hc b d => by
            simp only [List.mem_cons, List.not_mem_nil, or_false, not_or] at hc
            rw [lC c (by omega) (by omega) (by omega) (by omega), rC c (by omega) b d, cB c (by omega) (by omega) (by omega) (by omega) (by omega) (by omega), bI c (by simp; omega)]
          have lB : ∀ c, c ≠ 0 → c ≠ 18 → c ≠ 19 → c ≠ 23 → c ≠ 28 → c ≠ 29 → c ≠ 46 → c ≠ 425 → c ≠ 426 → c ≠ 508 → c ≠ 511 + wk → ¬ (428 ≤ c ∧ c < 508) → L c = B c := fun c h1 h2 h3 h4 h5 h6 h7 h8 h9 h10 h11 h12 => by
            rw [lC c h7 h8 h9 h10, rC c h7 h11 h12, cB c h1 h2 h3 h4 h5 h6]
          have l46I : ∀ j, 9 ≤ j → j ≠ 28 → j ≠ 34 → j ≠ 35 → j ≠ 38 → j ≠ 39 → L 46 j = I 46 j := fun j a b c d e f => by
            rw [l46 j d e f, r46 j (by omega) c d e f, a2 j a b, c46]
          have l29 : L 29 = s.1 := by rw [lC 29 (by omega) (by omega) (by omega) (by omega), rC 29 (by omega) (by omega) (by omega), cJ 29 (by omega)]; exact sJ.1
          have l0 : L 0 = C 0 := by rw [lC 0 (by omega) (by omega) (by omega) (by omega), rC 0 (by omega) (by omega) (by omega)]
          have l0' : ∀ j, L 0 j = if j = 13 then nI s.2.2.2 else I 0 j := fun j => by
            rw [l0, ← hC', m_up_at, j8, hJ.1 0 (by decide), bI 0 (by decide)]
          obtain ⟨hCo, hBk, hSh, hIm, -, ⟨c1, c2, c3⟩, hSr⟩ := hA
          have l1 : L 1 = K 1 := by rw [lB 1 (by omega) (by omega) (by omega) (by omega) (by omega) (by omega) (by omega) (by omega) (by omega) (by omega) (by omega) (by omega), bK 1 (by omega) (by omega) (by omega) (by omega)]
          have l32 : L 32 = B 32 := lB 32 (by omega) (by omega) (by omega) (by omega) (by omega) (by omega) (by omega) (by omega) (by omega) (by omega) (by omega) (by omega)
          have l33 : L 33 = B 33 := lB 33 (by omega) (by omega) (by omega) (by omega) (by omega) (by omega) (by omega) (by omega) (by omega) (by omega) (by omega) (by omega)
          have l36 : L 36 = B 36 := lB 36 (by omega) (by omega) (by omega) (by omega) (by omega) (by omega) (by omega) (by omega) (by omega) (by omega) (by omega) (by omega)
          have l48 : L 48 = I 48 := lI 48 (by decide) (by omega) (by omega)
          refine fin_ok ?_ (fun _ => ?_) (hn L _ ⟨F, S, n, cd, ?_, ?_, ⟨wk + 1, by omega, ?_, ?_, fun k hk => ?_⟩, ?_, ⟨?_, 0, by omega, ?_, ?_, fun j hj => absurd hj (by omega)⟩, ⟨?_, ?_, ?_⟩, Sr.zero ?_⟩ (TI_s hT))
          · rw [l46 0 (by omega) (by omega) (by omega), r46 0 (by omega) (by omega) (by omega) (by omega) (by omega)]; exact a3
          · show (C 23 7).toInt64 = (L 46 39).toInt64
            rw [sL'.2.2.1, cJ 23 (by omega), j7]
          · exact hCo.of (fun c hc => lI c (by unfold coreC at hc; simp; omega) (by unfold coreC at hc; omega) (by unfold coreC at hc; omega)) (l46I 19 (by omega) (by omega) (by omega) (by omega) (by omega) (by omega)) (by rw [l29]; exact sL'.1) (by rw [l29]; exact sL'.2.2.2.2.1)
          · exact hBk.of (fun c hc => lI c (by unfold bookC at hc; simp; omega) (by unfold bookC at hc; omega) (by unfold bookC at hc; omega)) (l46I 33 (by omega) (by omega) (by omega) (by omega) (by omega) (by omega))
          · rw [l32]; exact b32.1
          · rw [l46 34 (by omega) (by omega) (by omega)]; exact r3.2
          · rw [l33, b33]
            by_cases z : k = wk
            · subst z
              have er : ∀ j, j < 29 → va_cpy (I 29) (I 33) 0 (29 * k) 29 (29 * k + j) = I 29 j := fun j hj => by
                unfold va_cpy
                rw [if_pos (by omega), show 0 + (29 * k + j - 29 * k) = j by omega]
              have lr : L (511 + k) = rr := by rw [lC (511 + k) (by omega) (by omega) (by omega) (by omega)]; exact rrow
              rw [lr]
              exact ⟨rowR.eq hCo.2.2.2.2.2.2.1 er hrr2, rowV.eq hF hCo.rv er⟩
            · have er : ∀ j, j < 29 → va_cpy (I 29) (I 33) 0 (29 * wk) 29 (29 * k + j) = I 33 (29 * k + j) := fun j hj => by
                unfold va_cpy
                rw [if_neg (by omega)]
              obtain ⟨q1, q2⟩ := hsh k (by omega)
              rw [lI (511 + k) (by simp; omega) (by omega) (by omega)]
              exact ⟨rowR.eq q1 er (fun _ _ => rfl), rowV.eq hF q2 er⟩
          · exact hIm.of (fun c hc => lI c (by unfold imagC at hc; simp; omega) (by unfold imagC at hc; omega) (by unfold imagC at hc; omega)) (by rw [l32]; exact b32.2) (l46I 36 (by omega) (by omega) (by omega) (by omega) (by omega) (by omega))
          · rw [l1, l46 3 (by omega) (by omega) (by omega), r3.1]; exact tK.2.2.2.2
          · rw [l1]; exact tK.1.2.1
          · rw [l46 1 (by omega) (by omega) (by omega), r46 1 (by omega) (by omega) (by omega) (by omega) (by omega)]; exact a4
          · rw [l0' 13, if_pos rfl, sL'.2.2.2.1]
          · rw [l0' 14, if_neg (by omega), l48]; exact c2
          · rw [l0' 15, if_neg (by omega), l48]; exact c3
          · rw [l36]; exact b36
        · have eq : (Sum.inr (σ, p') : RS ST) = Sum.inl (k, q) := by rw [← eR, ← eR']; rfl
          cases eq
      · have kI : ∀ c, c ∉ [1, 23, 24, 25, 26, 27] → K c = I c := fun c hc => by
          rw [fK c hc, fr1 c (by simp at hc ⊢; omega)]
        refine q_isFine_f g (bq_t rfl ?_)
        refine ⟨gsc 1 hi hL (by decide), ?_⟩
        refine mq_work (w := w) hF ht (by rw [kI 46 (by decide)]; exact h461) ⟨hN1, hN2⟩ (by rw [kI 46 (by decide)]; exact k4634) cw (by rw [kI 50 (by decide)]; exact hA.1.2.1.1) (fun j hj => by rw [kI 47 (by decide)]; exact ⟨(hb j hj).1, (hb j hj).2.1⟩) (fun σ' p2 eR' => ?_) (fun k' q' eR' J2 a1 a2 a3 a4 a5 => ?_)
        · have eq : (Sum.inl (k, q) : RS ST) = Sum.inr (σ', p2) := by rw [← eR, ← eR']; rfl
          cases eq
        · have eq : (Sum.inl (k, q) : RS ST) = Sum.inl (k', q') := by rw [← eR, ← eR']; rfl
          cases eq
          refine fin_ok a3 (fun _ => by show (K 1 5 - 10).toInt64 = _; rw [g.2.2.1]) (hn J2 _ ⟨F, S, n, cd, Inv_text hA (fun c hc => ?_) (fun j hj => ?_) ?_ ?_ a4⟩ (TI_s hT))
          · unfold keepC coreC bookC shelC imagC at hc
            rw [a1 c (by omega) (by omega)]
            exact kI c (by simp; omega)
          · rw [a2 j (by omega) (by omega), kI 46 (by decide)]
          · rw [a1 1 (by omega) (by omega), a5]; exact g.2.2.2.2
          · rw [a1 1 (by omega) (by omega)]; exact g.1.2.1
    · have e16 : wk = 16 := by omega
      refine bq_f (nI_nlt (a := wk) (b := 16) (by omega) (by omega)) ?_
      refine q_begin (n := 0) (w := w) (Nat.zero_le t) ht (fun j hj => ⟨(hb j hj).1, (hb j hj).2.2⟩) (fun J1 fr1 t1 => ?_)
      refine ⟨gsc 1 hi hL (by decide), ?_⟩
      refine mq_work16 (N := N) ht (by rw [fr1 46 (by decide)]; exact h461) ⟨hN1, hN2⟩ (by rw [fr1 46 (by decide), k4634, e16]) ?_
      refine fin_ok rfl (fun _ => rfl) (hn _ _ ⟨F, S, n, cd, Inv_text hA (fun c hc => ?_) (fun j hj => ?_) ?_ ?_ rfl⟩ (TI_s hT))
      · unfold keepC coreC bookC shelC imagC at hc
        rw [m_up_ne (by omega), m_up_ne (by omega), m_up_ne (by omega), fr1 c (by simp; omega)]
      · rw [m_up_at, if_neg (by omega), m_up_at, if_neg (by omega), m_up_at, if_neg (by omega), fr1 46 (by decide)]
      · show J1 1 6 = -1
        exact t1.2.2.2.2
      · exact t1.1.2.1
  · refine ⟨rfl, ⟨gsc 1 hi hL (by decide), ?_⟩⟩
    refine mq_work_b (t := t) ht h461 c (fun v J hJ h0 => fin_ok h0 (fun q => absurd q (by decide)) (hn J _ (Inv_thr (x := 1) (by decide) ⟨F, S, n, cd, hA⟩ rfl (ro.refl _) hJ) (TI_x hT)))
end WORKO
