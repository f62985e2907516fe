/-! ===== law: the case ===== -/
theorem Core.law {B K : II} {F S n n2 : Nat} {cd cd2 : Nat → Nat × Int32} (h : Core B F S n cd) (e : ∀ c, coreC c → ¬ (15 ≤ c ∧ c ≤ 16) → ¬ (86 ≤ c ∧ c < 236) → K c = B c) (e29 : K 29 = B 29) (e508 : K 508 = B 508) (hl : lawR K n2 cd2) : Core K F S n2 cd2 := by
  obtain ⟨h1, h2, h3, h4, h5, h6, h7, h8⟩ := h
  have b1 := h1.2.1
  have b2 := h1.2.2.2
  have c3 : K 3 = B 3 := e 3 (by unfold coreC; omega) (by omega) (by omega)
  have c50 : K 50 = B 50 := e 50 (by unfold coreC; omega) (by omega) (by omega)
  refine ⟨by unfold hN at h1 ⊢; rw [c3]; exact h1, by unfold mN at h2 ⊢; rw [c50]; exact h2, hl, fun f hf => ?_, fun s hs => ?_, by rw [c50, c3]; exact h6, by rw [e29, e508]; exact h7, by rw [e29]; exact h8⟩
  · rw [e (61 + f) (by unfold coreC; omega) (by omega) (by omega), e 4 (by unfold coreC; omega) (by omega) (by omega), e 5 (by unfold coreC; omega) (by omega) (by omega), e 6 (by unfold coreC; omega) (by omega) (by omega), e 84 (by unfold coreC; omega) (by omega) (by omega)]
    exact h4 f hf
  · rw [e (77 + s) (by unfold coreC; omega) (by omega) (by omega), e 7 (by unfold coreC; omega) (by omega) (by omega), e 8 (by unfold coreC; omega) (by omega) (by omega)]
    exact h5 s hs
section LAWO
variable {E : MEnv} {I : II} {T : TT} {Q : QQ} {N : Nat} {w : Nat → Nat}
theorem tM_at0 {J : II} {p : Nat} (t : tM J N w p) (v : Int32) : tM (m_up J 46 20 v) N w p := tM_7 (by omega) t
theorem mq_law {X : Nat × (Nat → Int32)} {t : Nat} (ht : t ≤ 600) (h461 : I 46 1 = nI t) (hN : N ≤ t ∧ N ≤ 150) (hb : ∀ j, j < t → w j < 256 ∧ I 47 j = nI (w j)) (h1 : ∀ l, lwR N w = .inr l → ∀ K, (∀ c, c ≠ 46 → ¬ (86 ≤ c ∧ c < 236) → ¬ (247 ≤ c ∧ c < 407) → K c = I c) → (∀ j, 9 ≤ j → j ≠ 19 → j ≠ 20 → K 46 j = I 46 j) → K 46 0 = 0 → K 46 1 = 0 → K 46 3 = -1 → lawM K l.length (cdl l) → Q (.inl (some (.int 1))) K T) (h0 : ∀ k q, lwR N w = .inl (k, q) → ∀ K, (∀ c, c ≠ 46 → ¬ (247 ≤ c ∧ c < 407) → K c = I c) → (∀ j, 9 ≤ j → j ≠ 20 → K 46 j = I 46 j) → K 46 0 = 0 → K 46 1 = 0 → K 46 3 = nI q → Q (.inl (some (.int (nI k - 10)))) K T) : ev (16, X) 85 0 [some (.ref 46), some (.int (nI N))] [] I T Q := by
  refine s_M_law_0 ?_
  unfold t_M_law_0
  show ev (16, X) 57 0 [some (.int (nI N)), some (.int 0), some (.int (I 46 1))] [] _ T _
  rw [h461]
  refine q_in _ _ _ ?_
  rw [wI_n hN.1 (by omega)]
  refine bq_f (by decide) (bq_t (nI_le (a := N) (b := 150) hN.2 (by omega)) ?_)
  unfold t_M_law_16
  refine qm_bad0 rfl _ _ (bq_t rfl ?_)
  refine qn_starts hN.1 ht hb (fun J frJ o46 tJ _ j8 => ?_)
  have eC : ∀ c, c ≠ 46 → J c = I c := fun c hc => by rw [frJ c (by simpa using hc), m_up_ne hc]
  have k46 : ∀ {K : II} (j : Nat), fn (m_up J 46 20 0) K → (j = 0 ∨ 9 ≤ j) → j ≠ 20 → K 46 j = if j = 0 then 0 else I 46 j := fun {K} j f hj h20 => by
    rw [f.2 j (by omega) (by omega) (by omega) (by omega) h20, m_up_at, if_neg h20, o46 j (by omega), m_up_at]
  have kC : ∀ {K : II} (c : Nat), fn (m_up J 46 20 0) K → c ≠ 46 → ¬ (247 ≤ c ∧ c < 407) → K c = I c := fun c f a b => by rw [f.1 c a b, m_up_ne a, eC c a]
  have e45 : ∀ {K : II} {k q : Nat}, fn (m_up J 46 20 0) K → fM K N w k q → lwR N w = .inl (k, q) → t_M_law_45 (16, X) K T Q := fun {K k q} f g eR => by
    unfold t_M_law_45
    refine bq_f (fM_ne g) (qn_ends ?_)
    show Q (.inl (some (.int (K 46 5 - 10)))) (m_up K 46 3 (K 46 6)) T
    rw [g.2.1, g.2.2.2.1]
    refine h0 k q eR _ (fun c a b => by rw [m_up_ne a]; exact kC c f a b) (fun j a b => ?_) ?_ ?_ rfl
    · rw [m_up_at, if_neg (by omega), k46 j f (by omega) b, if_neg (by omega)]
    · rw [m_up_at, if_neg (by omega), k46 0 f (by omega) (by omega), if_pos rfl]
    · rw [m_up_at, if_neg (by omega)]; exact g.1.2.1
  refine m_sumD hN.2 6 0 16 (by omega) (by omega) _ _ _ (bl N w 0) [] (tM_at0 tJ _) trivial (by show 0 ≤ _; omega) (by show 0 ≤ _; omega) ⟨rfl, fun k hk => absurd hk (Nat.not_lt_zero _)⟩ (by show J 46 8 = _; exact j8) (fun l p e1 K f tK q e8 => ?_) (fun k q e1 K f g => ?_)
  · rw [sum_bl (by omega)] at e1
    have hlen := gd_sum 7 0 rfl 0 [] l p (by omega) trivial (by show 0 ≤ _; omega) e1
    have hl150 : l.length ≤ 150 := by
      have : ([] : CL).length = 0 := rfl
      omega
    refine qn_blanks tK.1 tK.2.1 tK.2.2.1 ?_
    have hb2 := bl_le (w := w) tK.2.1
    have tb := tM_at tK hb2.2
    have fb : fm K (m_up K 46 4 (nI (bl N w p))) := fm_4 _ _
    refine bq_t tb.2.2.2.1 ?_
    have e2 : (m_up K 46 4 (nI (bl N w p))) 46 2 = nI N := tK.1.2.2.1
    have e4 : (m_up K 46 4 (nI (bl N w p))) 46 4 = nI (bl N w p) := rfl
    rw [e2, e4]
    by_cases z : bl N w p = N
    · refine bq_t (by rw [z]; exact nI_le (Nat.le_refl _) (by omega)) ?_
      unfold t_M_law_45
      refine bq_t tb.2.2.2.1 ?_
      have q2 := mq_m (by omega) fb q
      generalize hM : m_up K 46 4 (nI (bl N w p)) = M at tb fb q2 ⊢
      have e20 : (m_up M 46 3 (-1)) 46 20 = nI l.length := q2.1
      rw [e20]
      have e19 : (m_up (m_up M 46 3 (-1)) 46 19 (nI l.length)) 46 19 = nI l.length := rfl
      rw [e19]
      refine q_lays_85 (by omega) (fun K2 a1 a2 => ?_)
      have m46 : ∀ j, j ≠ 3 → j ≠ 19 → K2 46 j = M 46 j := fun j a b => by rw [a1 46 (by omega), m_up_at, if_neg b, m_up_at, if_neg a]
      have fM' : fn (m_up J 46 20 0) M := f.trans fb.fn
      refine h1 l (lwR_ok e1 z) K2 (fun c a b d => ?_) (fun j a b d => ?_) ?_ ?_ ?_ ⟨?_, fun k hk => ?_⟩
      · rw [a1 c (by omega), m_up_ne a, m_up_ne a]; exact kC c fM' a d
      · rw [m46 j (by omega) b, k46 j fM' (by omega) d, if_neg (by omega)]
      · rw [m46 0 (by omega) (by omega), k46 0 fM' (by omega) (by omega), if_pos rfl]
      · rw [m46 1 (by omega) (by omega)]; exact tb.1.2.1
      · rw [a1 46 (by omega)]; rfl
      · rw [a1 46 (by omega)]; rfl
      · have := a2 k hk
        rw [m_up_ne (show 247 + k ≠ 46 by omega), m_up_ne (show 247 + k ≠ 46 by omega)] at this
        rw [this.1, this.2]
        exact q2.2 k hk
    · refine bq_f (nI_ge (by omega) (by omega)) ?_
      refine qn_wrong_t (k := 1) tb (by omega) (fun K2 f2 g2 => ?_)
      exact e45 (f.trans (fb.trans f2).fn) g2 (lwR_1 e1 z)
  · rw [sum_bl (by omega)] at e1
    obtain ⟨p3, hp3, h4⟩ := g.2.2.2.2
    refine qn_blanks g.1 hp3 h4 ?_
    have g2 : fM (m_up K 46 4 (nI (bl N w p3))) N w k q := ⟨g.1, g.2.1, g.2.2.1, g.2.2.2.1, _, (bl_le hp3).2, rfl⟩
    refine bq_f (fM_ne g2) ?_
    exact e45 (f.trans (fm_4 _ _).fn) g2 (lwR_f e1)
theorem mq_law_b {t : Nat} {x : Int32} (ht : t ≤ 600) (h461 : I 46 1 = nI t) (c : ¬ ∃ n, n ≤ t ∧ n ≤ 150 ∧ x = nI n) (hq : ∀ v J, ro (m_up I 48 1 (I 48 1 + 1)) J → J 46 0 = 1 → Q (.inl (some (.int v))) J T) : ev E 85 0 [some (.ref 46), some (.int x)] [] I T Q := by
  refine s_M_law_0 ?_
  unfold t_M_law_0
  show ev E 57 0 [some (.int x), some (.int 0), some (.int (I 46 1))] [] _ T _
  rw [h461]
  refine q_in _ _ _ ?_
  have fin : t_M_law_13 E (m_up I 46 0 0) T Q x := by
    unfold t_M_law_13 t_M_law_16
    refine qm_bad1 (j := 1) rfl (by decide) (by decide) ?_
    exact bq_f (by decide) (hq _ _ (ro_bad I _ _) rfl)
  by_cases d : okW x 0 (nI t)
  · rw [wI_t d]
    obtain ⟨j, h2, rfl⟩ := okW_nat (by omega) d
    have : 150 < j := Nat.lt_of_not_le (fun z => c ⟨j, h2, z, rfl⟩)
    exact bq_f (by decide) (bq_f (nI_ge (a := 150) (b := j) (by omega) (by omega)) fin)
  · rw [wI_f d]
    exact bq_t rfl fin
theorem o_law (hE : E.1 = 16) : op_ok Inv E t_W_main_117 := by
  obtain ⟨e, X⟩ := E
  have hE2 : e = 16 := hE
  subst hE2
  intro I T Q i m hI hT hm hi hL hn
  have hG := TI_g hT hm
  obtain ⟨F, S, n, cd, hA⟩ := hI
  unfold t_W_main_117
  generalize (16, X).2.2 (nI i + 1).toNatClampNeg = a
  refine ⟨gsc 1 hi hL (by decide), ?_⟩
  refine s_W_law77_0 ?_
  unfold t_W_law77_0 t_W_law77_9
  refine s_X_law_0 ?_
  unfold t_X_law_0 t_X_law_27
  obtain ⟨t, w, ht, h11, h461, hb⟩ := Tx_w hA.2.2.2.2.1
  refine q_needText (m := 150) hG ht (by omega) h11 a (fun ⟨N, hN1, hN2, e⟩ => ?_) (fun c => ?_)
  · subst e
    refine q_begin hN1 ht (fun j hj => ⟨(hb j hj).1, (hb j hj).2.2⟩) (fun J1 fr1 t1 => ?_)
    refine s_Search_forget_0 ?_
    unfold t_Search_forget_0
    refine q_lawRead hN2 (tC_fr t1 rfl rfl) (fun l eR hl hd hlen K fK k1 k6 k5 hC => ?_) (fun k q eR K fK g => ?_)
    · have fr : ∀ c, c ∉ [1, 15, 16, 17, 36] → K c = I c := fun c hc => by
        rw [fK c (by simp at hc ⊢; omega), m_up_ne (by simp at hc; omega), fr1 c (by simp at hc ⊢; omega)]
      have k36 : K 36 5 = 0 := by rw [fK 36 (by decide)]; rfl
      refine s_Text_isFine_0 ?_
      unfold t_Text_isFine_0 t_Text_isFine_6
      refine bq_t k5 ⟨Or.inr rfl, bq_f (by decide) ?_⟩
      refine ⟨gsc 1 hi hL (by decide), ?_⟩
      refine mq_law (w := w) ht (by rw [fr 46 (by decide)]; exact h461) ⟨hN1, hN2⟩ (fun j hj => by rw [fr 47 (by decide)]; exact ⟨(hb j hj).1, (hb j hj).2.1⟩) (fun l' eR' J2 a1 a2 a3 a4 a5 a6 => ?_) (fun k q eR' => ?_)
      · rw [eR] at eR'
        have el : l = l' := by injection eR'
        subst el
        have kk : ∀ c, c ∉ [1, 15, 16, 17, 36, 46] → ¬ (86 ≤ c ∧ c < 236) → ¬ (247 ≤ c ∧ c < 407) → J2 c = I c := fun c x y z => by
          rw [a1 c (by simp at x; omega) y z]
          exact fr c (by simp at x ⊢; omega)
        have k46 : ∀ j, 9 ≤ j → j ≠ 19 → j ≠ 20 → J2 46 j = I 46 j := fun j x y z => by rw [a2 j x y z, fr 46 (by decide)]
        have l1 : 1 ≤ l.length := by
          cases l with
          | nil => exact absurd hd (by decide)
          | cons c l => rw [List.length_cons]; omega
        obtain ⟨hCo, hB, hSh, hIm, -, ⟨c1, c2, c3⟩, hSr⟩ := hA
        refine fin_ok a3 (fun _ => rfl) (hn J2 _ ⟨F, S, l.length, cdl l, ?_, ?_, ?_, ?_, ⟨?_, 0, by omega, ?_, a4, fun j hj => absurd hj (by omega)⟩, ⟨?_, ?_, ?_⟩, Sr.zero ?_⟩ (TI_s hT))
        · refine hCo.law (fun c hc x y => kk c (by unfold coreC at hc; simp; omega) y (by unfold coreC at hc; omega)) (kk 29 (by decide) (by omega) (by omega)) (kk 508 (by decide) (by omega) (by omega)) ⟨⟨dpl l, lawW_of hl hd hlen⟩, ⟨?_, fun k hk => ?_⟩, Or.inl ⟨l1, a6⟩⟩
          · rw [a1 15 (by omega) (by omega) (by omega)]; exact hC.1
          · rw [a1 16 (by omega) (by omega) (by omega)]; exact hC.2 k hk
        · exact hB.of (fun c hc => kk c (by unfold bookC at hc; simp; omega) (by unfold bookC at hc; omega) (by unfold bookC at hc; omega)) (k46 33 (by omega) (by omega) (by omega))
        · exact hSh.of (fun c hc => kk c (by unfold shelC at hc; simp; omega) (by unfold shelC at hc; omega) (by unfold shelC at hc; omega)) (by rw [kk 32 (by decide) (by omega) (by omega)]) (k46 34 (by omega) (by omega) (by omega))
        · exact hIm.of (fun c hc => kk c (by unfold imagC at hc; simp; omega) (by unfold imagC at hc; omega) (by unfold imagC at hc; omega)) (by rw [kk 32 (by decide) (by omega) (by omega)]) (k46 36 (by omega) (by omega) (by omega))
        · rw [a1 1 (by omega) (by omega) (by omega), k6, a5]
        · rw [a1 1 (by omega) (by omega) (by omega), k1]; rfl
        · rw [kk 0 (by decide) (by omega) (by omega), k46 35 (by omega) (by omega) (by omega)]; exact c1
        · rw [kk 0 (by decide) (by omega) (by omega), kk 48 (by decide) (by omega) (by omega)]; exact c2
        · rw [kk 0 (by decide) (by omega) (by omega), kk 48 (by decide) (by omega) (by omega)]; exact c3
        · rw [a1 36 (by omega) (by omega) (by omega)]; exact k36
      · rw [eR] at eR'; cases eR'
    · have fr : ∀ c, c ∉ [1, 15, 17, 36] → K c = I c := fun c hc => by
        rw [fK.1 c (by simp at hc ⊢; omega), m_up_ne (by simp at hc; omega), fr1 c (by simp at hc ⊢; omega)]
      have k36 : K 36 5 = 0 := by rw [fK.1 36 (by decide)]; rfl
      have k15 : K 15 4 = I 15 4 := by rw [fK.2 4 (by omega), m_up_ne (by decide), fr1 15 (by decide)]
      refine q_isFine_f g (bq_t rfl ?_)
      refine ⟨gsc 1 hi hL (by decide), ?_⟩
      refine mq_law (w := w) ht (by rw [fr 46 (by decide)]; exact h461) ⟨hN1, hN2⟩ (fun j hj => by rw [fr 47 (by decide)]; exact ⟨(hb j hj).1, (hb j hj).2.1⟩) (fun l' eR' => ?_) (fun k' q' eR' J2 a1 a2 a3 a4 a5 => ?_)
      · rw [eR] at eR'; cases eR'
      · rw [eR] at eR'
        cases eR'
        have kk : ∀ c, c ∉ [1, 15, 17, 36, 46] → ¬ (247 ≤ c ∧ c < 407) → J2 c = I c := fun c x y => by
          rw [a1 c (by simp at x; omega) y]
          exact fr c (by simp at x ⊢; omega)
        have k46 : ∀ j, 9 ≤ j → j ≠ 20 → J2 46 j = I 46 j := fun j x y => by rw [a2 j x y, fr 46 (by decide)]
        obtain ⟨hCo, hB, hSh, hIm, -, ⟨c1, c2, c3⟩, hSr⟩ := hA
        refine fin_ok a3 (fun _ => by show (K 1 5 - 10).toInt64 = _; rw [g.2.2.1]) (hn J2 _ ⟨F, S, n, cd, ?_, ?_, ?_, ?_, ⟨?_, 0, by omega, ?_, a4, fun j hj => absurd hj (by omega)⟩, ⟨?_, ?_, ?_⟩, Sr.zero ?_⟩ (TI_s hT))
        · obtain ⟨hw, hcc, hmm⟩ := hCo.lr
          refine hCo.law (fun c hc x y => kk c (by unfold coreC at hc; simp; omega) (by unfold coreC at hc; omega)) (kk 29 (by decide) (by omega)) (kk 508 (by decide) (by omega)) ⟨hw, ⟨?_, fun k hk => ?_⟩, ?_⟩
          · rw [a1 15 (by omega) (by omega), k15]; exact hcc.1
          · rw [kk 16 (by decide) (by omega)]; exact hcc.2 k hk
          · obtain ⟨dep, hW⟩ := hw
            have n150 := hW.2.2.1
            rcases hmm with ⟨z1, z2⟩ | ⟨z1, z2⟩
            · refine Or.inl ⟨z1, by rw [k46 19 (by omega) (by omega)]; exact z2.1, fun k hk => ?_⟩
              rw [kk (86 + k) (by simp; omega) (by omega)]
              exact z2.2 k hk
            · exact Or.inr ⟨by rw [k46 19 (by omega) (by omega)]; exact z1, z2⟩
        · exact hB.of (fun c hc => kk c (by unfold bookC at hc; simp; omega) (by unfold bookC at hc; omega)) (k46 33 (by omega) (by omega))
        · exact hSh.of (fun c hc => kk c (by unfold shelC at hc; simp; omega) (by unfold shelC at hc; omega)) (by rw [kk 32 (by decide) (by omega)]) (k46 34 (by omega) (by omega))
        · exact hIm.of (fun c hc => kk c (by unfold imagC at hc; simp; omega) (by unfold imagC at hc; omega)) (by rw [kk 32 (by decide) (by omega)]) (k46 36 (by omega) (by omega))
        · rw [a1 1 (by omega) (by omega), a5]; exact g.2.2.2.2
        · rw [a1 1 (by omega) (by omega)]; exact g.1.2.1
        · rw [kk 0 (by decide) (by omega), k46 35 (by omega) (by omega)]; exact c1
        · rw [kk 0 (by decide) (by omega), kk 48 (by decide) (by omega)]; exact c2
        · rw [kk 0 (by decide) (by omega), kk 48 (by decide) (by omega)]; exact c3
        · rw [a1 36 (by omega) (by omega)]; exact k36
  · refine ⟨rfl, ⟨gsc 1 hi hL (by decide), ?_⟩⟩
    refine mq_law_b (t := t) ht h461 c (fun v J hJ h0 => fin_ok h0 (fun q => absurd q (by decide)) (hn J _ (Inv_thr (x := 1) (by decide) ⟨F, S, n, cd, hA⟩ rfl (ro.refl _) hJ) (TI_x hT)))
end LAWO
