/-! ===== work: the class's reader ===== -/
section WORKC2
variable {E : MEnv} {I : II} {T : TT} {Q : QQ} {N F : Nat} {w : Nat → Nat}
theorem q_rst_f {J : II} {k q : Nat} {x : Int32} (f : fC J N w k q) (hq : Q (.inl none) J T) : ev E 97 0 [some (.ref 23), some (.ref 1), some (.int x), none, none] [] J T Q := by
  refine s_Plan_readSteps_0 ?_
  unfold t_Plan_readSteps_0
  exact q_rs_f f hq
theorem c_stp {e : Nat} {X : Nat × (Nat → Int32)} {f : Nat → ST → RS ST} {x : Nat} {g : Bool} (hF : F ≤ 8) (hx : g = decide (x < 6)) (hx6 : x ≤ 6) (hN : N ≤ 150) (hin : g = true → CS N w F f (fun I T Q => ev (e, X) 97 0 [some (.ref 23), some (.ref 1), some (.int (nI (x + 1))), none, none] [] I T Q)) (hg : g = true → gS N f) : CS N w F (stpR N w F f g) (fun I T Q => ev (e + 1, X) 98 0 [some (.ref 23), some (.ref 1), some (.int (nI x)), none, none] [] I T Q) := by
  intro I T Q p σ t h5 hn h4 h1 h0
  have hp := t.2.1
  have hb := bl_le (w := w) hp
  have hl := le_le (w := w) hb.2
  show ev (e + 1, X) 98 0 [some (.ref 23), some (.ref 1), some (.int (nI x)), none, none] [] I T Q
  refine s_Plan_readStep_0 ?_
  unfold t_Plan_readStep_0
  have f15 : ∀ {K : II} {k q : Nat} {x3 : Int32}, fs σ.1 I K → fC K N w k q → stpR N w F f g p σ = .inl (k, q) → t_Plan_readStep_15 e X K T Q (nI x) x3 := fun fK gK eK => by
    unfold t_Plan_readStep_15 t_Plan_readStep_22
    exact q_isFine_f gK (bq_t rfl (h0 _ _ eK _ fK gK))
  refine q_wd5_t t (fun i ei J fJ tJ mJ => ?_) (fun en J fJ gJ => ?_)
  · obtain ⟨i7, w3, w4, w5⟩ := kx5 hp ei
    have n30 : σ.1 < 30 := by omega
    have e5 : J 23 5 = nI σ.1 := by rw [fJ 23 (by decide)]; exact hn
    -- the end of a step
    have f103 : ∀ {K : II} {k q : Nat}, fs σ.1 I K → fC K N w k q → stpR N w F f g p σ = .inl (k, q) → t_Plan_readStep_103 e X K T Q (nI σ.1) := fun {K k q} fK gK eK => by
      unfold t_Plan_readStep_103
      rw [nI_clamp (by omega)]
      exact ⟨⟨nI_pos (by omega), n30⟩, h0 k q eK _ (fs.trans (Nat.le_refl _) fK (fs_up (by omega) (Nat.le_refl _))) (fC_up (by decide) (by decide) gK)⟩
    have c103 : ∀ {K : II} {a b p' : Nat}, fs σ.1 I K → tC K N w p' → K 23 5 = nI (σ.1 + 1) → K 24 σ.1 = nI i → K 25 σ.1 = nI a → K 26 σ.1 = nI b → stpR N w F f g p σ = .inr (s1S σ i a b, p') → t_Plan_readStep_103 e X K T Q (nI σ.1) := fun {K a b p'} fK tK k5 k24 k25 k26 eK => by
      unfold t_Plan_readStep_103
      rw [nI_clamp (by omega), k5]
      refine ⟨⟨nI_pos (by omega), n30⟩, h1 _ p' eK _ (fs.trans (Nat.le_refl _) fK (fs_up (by omega) (Nat.le_refl _))) (tC_up (by decide) (by decide) tK) k5 (fun k u v => ?_)⟩
      have v2 : k < σ.1 + 1 := v
      have ek : k = σ.1 := by omega
      subst ek
      show eC _ _ (uS σ.2 σ.1 (i, a, b, σ.1 + 1) σ.1)
      rw [uS_eq]
      exact ⟨k24, k25, k26, by rw [m_up_at, if_pos rfl]⟩
    have go : (i = 6 → g = true) → t_Plan_readStep_15 e X J T Q (nI x) (nI i) := fun h6 => by
      unfold t_Plan_readStep_15
      refine q_isFine_t tJ (bq_f (by decide) ?_)
      rw [e5, nI_clamp (by omega), nI_1]
      refine bq_t (nI_lt (a := σ.1) (b := 30) n30 (by omega)) ⟨⟨nI_pos (by omega), n30⟩, ⟨nI_pos (by omega), n30⟩, ⟨nI_pos (by omega), n30⟩, ?_⟩
      generalize hJ1 : m_up (m_up (m_up (m_up J 23 5 (nI (σ.1 + 1))) 24 σ.1 (nI i)) 25 σ.1 0) 26 σ.1 0 = J1
      have fJ1 : fs σ.1 I J1 := by
        rw [← hJ1]
        exact fs.trans (Nat.le_refl _) (fs.trans (Nat.le_refl _) (fs.trans (Nat.le_refl _) (fs.trans (Nat.le_refl _) (fs_1 fJ) fs_n) (fs_up (by omega) (Nat.le_refl _))) (fs_up (by omega) (Nat.le_refl _))) (fs_up (by omega) (Nat.le_refl _))
      have tJ1 : tC J1 N w (le N w (bl N w p)) := by rw [← hJ1]; exact tC_fr tJ rfl rfl
      have j5 : J1 23 5 = nI (σ.1 + 1) := by rw [← hJ1]; rfl
      have j4 : J1 23 4 = nI F := by rw [fJ1.2.1 4 (by decide)]; exact h4
      have j24 : J1 24 σ.1 = nI i := by rw [← hJ1, m_up_ne (by decide), m_up_ne (by decide), m_up_at, if_pos rfl]
      have j25 : J1 25 σ.1 = 0 := by rw [← hJ1, m_up_ne (by decide), m_up_at, if_pos rfl]
      have j26 : J1 26 σ.1 = 0 := by rw [← hJ1, m_up_at, if_pos rfl]
      by_cases i6 : i = 6
      · subst i6
        have gt := h6 rfl
        subst gt
        have eA : stpR N w F f true p σ = agnR N w f (le N w (bl N w p)) σ := stp_a ei
        refine bq_t rfl ?_
        refine q_num_t (lo := 0) (hi := 61) (by omega) (by omega) tJ1 (fun a p1 e1 K1 f1 t1 _ => ?_) (fun k q e1 v K1 f1 g1 => ?_)
        · have r1 := numR_pos hl.2 e1
          refine ⟨⟨nI_pos (by omega), n30⟩, ?_⟩
          have tK : tC (m_up K1 25 σ.1 (nI a)) N w p1 := tC_up (by decide) (by decide) t1
          have fK : fs σ.1 I (m_up K1 25 σ.1 (nI a)) := fs.trans (Nat.le_refl _) (fs.trans (Nat.le_refl _) fJ1 (fs_1 f1)) (fs_up (by omega) (Nat.le_refl _))
          refine q_sign_t (c := 91) (by omega) tK (fun p2 e2 K2 f2 t2 => ?_) (fun k q e2 K2 f2 g2 => ?_)
          · have r2 := sgnR_pos r1.2 e2
            have fK2 : fs σ.1 I K2 := fs.trans (Nat.le_refl _) fK (fs_1 f2)
            have k5 : K2 23 5 = nI (σ.1 + 1) := by rw [f2 23 (by decide), m_up_ne (by decide), f1 23 (by decide)]; exact j5
            have k24 : K2 24 σ.1 = nI 6 := by rw [f2 24 (by decide), m_up_ne (by decide), f1 24 (by decide)]; exact j24
            have k25 : K2 25 σ.1 = nI a := by rw [f2 25 (by decide), m_up_at, if_pos rfl]
            have k26 : K2 26 σ.1 = nI 0 := by rw [f2 26 (by decide), m_up_ne (by decide), f1 26 (by decide)]; exact j26
            rw [nI_1 x]
            refine hin rfl _ _ _ p2 (σ.1 + 1, σ.2) t2 (by show 5 * (σ.1 + 1) ≤ p2; have := w5 rfl; omega) k5 (by rw [fK2.2.1 4 (by decide)]; exact h4) (fun σ' p3 e3 K3 f3 t3 n3 c3 => ?_) (fun k q e3 K3 f3 g3 => ?_)
            · obtain ⟨a1, a2, a3, a4, a5⟩ := hg rfl _ _ _ _ r2.2 (by show 5 * (σ.1 + 1) ≤ p2; have := w5 rfl; omega) e3
              have a4' : σ.1 + 1 ≤ σ'.1 := a4
              have fK3 : fs σ.1 I K3 := fs.trans (by omega) fK2 f3
              obtain ⟨q24, q25, q26, -⟩ := f3.2.2 σ.1 (by show σ.1 < σ.1 + 1; omega)
              refine q_sign_t (c := 93) (by omega) t3 (fun p4 e4 K4 f4 t4 => ?_) (fun k q e4 K4 f4 g4 => ?_)
              · show t_Plan_readStep_103 e X K4 T Q (nI σ.1)
                unfold t_Plan_readStep_103
                have k45 : K4 23 5 = nI σ'.1 := by rw [f4 23 (by decide)]; exact n3
                rw [nI_clamp (by omega), k45]
                refine ⟨⟨nI_pos (by omega), n30⟩, h1 (σ'.1, uS σ'.2 σ.1 (6, a, 0, σ'.1)) p4 (by rw [eA]; unfold agnR; rw [bndR_r e1, bndR_r e2, bndR_r e3]; exact mapR_r e4) _ (fs.trans (Nat.le_refl _) (fs.trans (Nat.le_refl _) fK3 (fs_1 f4)) (fs_up (by omega) (Nat.le_refl _))) (tC_up (by decide) (by decide) t4) k45 (fun k u v => ?_)⟩
                show eC _ k (uS σ'.2 σ.1 (6, a, 0, σ'.1) k)
                by_cases z : k = σ.1
                · subst z
                  rw [uS_eq]
                  refine ⟨?_, ?_, ?_, by rw [m_up_at, if_pos rfl]⟩
                  · rw [m_up_ne (by decide), f4 24 (by decide), q24]; exact k24
                  · rw [m_up_ne (by decide), f4 25 (by decide), q25]; exact k25
                  · rw [m_up_ne (by decide), f4 26 (by decide), q26]; exact k26
                · rw [uS_ne z]
                  obtain ⟨d1, d2, d3, d4⟩ := c3 k (by show σ.1 + 1 ≤ k; omega) v
                  refine ⟨?_, ?_, ?_, ?_⟩
                  · rw [m_up_ne (by decide), f4 24 (by decide)]; exact d1
                  · rw [m_up_ne (by decide), f4 25 (by decide)]; exact d2
                  · rw [m_up_ne (by decide), f4 26 (by decide)]; exact d3
                  · rw [m_up_at, if_neg z, f4 27 (by decide)]; exact d4
              · exact f103 (fs.trans (Nat.le_refl _) fK3 (fs_1 f4)) g4 (by rw [eA]; unfold agnR; rw [bndR_r e1, bndR_r e2, bndR_r e3]; exact mapR_l e4)
            · refine q_sign_f _ g3 (fun K4 f4 g4 => ?_)
              exact f103 (fs.trans (Nat.le_refl _) (fs.trans (by omega) fK2 f3) (fs_1 f4)) g4 (by rw [eA]; unfold agnR; rw [bndR_r e1, bndR_r e2]; exact bndR_l e3)
          · refine q_rst_f g2 ?_
            refine q_sign_f _ g2 (fun K3 f3 g3 => ?_)
            exact f103 (fs.trans (Nat.le_refl _) fK (fs_1 (f2.trans f3))) g3 (by rw [eA]; unfold agnR; rw [bndR_r e1]; exact bndR_l e2)
        · refine ⟨⟨nI_pos (by omega), n30⟩, ?_⟩
          refine q_sign_f _ (fC_up (c := 25) (by decide) (by decide) g1) (fun K2 f2 g2 => ?_)
          refine q_rst_f g2 ?_
          refine q_sign_f _ g2 (fun K3 f3 g3 => ?_)
          exact f103 (fs.trans (Nat.le_refl _) (fs.trans (Nat.le_refl _) (fs.trans (Nat.le_refl _) fJ1 (fs_1 f1)) (fs_up (by omega) (Nat.le_refl _))) (fs_1 (f2.trans f3))) g3 (by rw [eA]; exact bndR_l e1)
      · refine bq_f (fun z => i6 ((nI_eq (a := i) (b := 6) (by omega) (by omega)).mp z)) ?_
        by_cases i3 : i < 3
        · refine bq_f (show ¬ (2 : Int32) < nI i from nI_nlt (a := 2) (b := i) (by omega) (by omega)) ?_
          have eA : stpR N w F f g p σ = argR N w F i (le N w (bl N w p)) σ := stp_r ei i3
          rw [j4]
          refine q_num_t (lo := 0) (hi := F) (by omega) (by omega) tJ1 (fun a p1 e1 K1 f1 t1 _ => ?_) (fun k q e1 v K1 f1 g1 => ?_)
          · have r1 := numR_pos hl.2 e1
            refine ⟨⟨nI_pos (by omega), n30⟩, ?_⟩
            have tK : tC (m_up K1 25 σ.1 (nI a)) N w p1 := tC_up (by decide) (by decide) t1
            have fK : fs σ.1 I (m_up K1 25 σ.1 (nI a)) := fs.trans (Nat.le_refl _) (fs.trans (Nat.le_refl _) fJ1 (fs_1 f1)) (fs_up (by omega) (Nat.le_refl _))
            have k5 : (m_up K1 25 σ.1 (nI a)) 23 5 = nI (σ.1 + 1) := by rw [m_up_ne (by decide), f1 23 (by decide)]; exact j5
            have k24 : (m_up K1 25 σ.1 (nI a)) 24 σ.1 = nI i := by rw [m_up_ne (by decide), f1 24 (by decide)]; exact j24
            have k25 : (m_up K1 25 σ.1 (nI a)) 25 σ.1 = nI a := by rw [m_up_at, if_pos rfl]
            have k26 : (m_up K1 25 σ.1 (nI a)) 26 σ.1 = nI 0 := by rw [m_up_ne (by decide), f1 26 (by decide)]; exact j26
            by_cases i1 : i = 1
            · subst i1
              exact bq_t rfl (c103 fK tK k5 k24 k25 k26 (by rw [eA]; unfold argR; rw [bndR_r e1]; exact if_pos rfl))
            · refine bq_f (fun z => i1 ((nI_eq (a := i) (b := 1) (by omega) (by omega)).mp z)) ?_
              refine q_isFine_t tK (bq_f (by decide) ?_)
              have go2 : ∀ (hi2 : Nat) (y4 : Int32), hi2 = (if i = 0 then 4 else 10) → y4 = nI hi2 - 1 → t_Plan_readStep_101 e X (m_up K1 25 σ.1 (nI a)) T Q (nI σ.1) (nI σ.1) 0 y4 := fun hi2 y4 hh hy => by
                have eB : argR N w F i (le N w (bl N w p)) σ = mapR (numR N w p1 0 hi2) (fun b => s1S σ i a b) := by unfold argR; rw [bndR_r e1, if_neg i1, hh]
                unfold t_Plan_readStep_101
                rw [hy, nI_clamp (by omega)]
                have h10 : hi2 ≤ 10 := by rw [hh]; split <;> omega
                refine q_num_t (lo := 0) (hi := hi2) (by omega) (by omega) tK (fun b p2 e2 K2 f2 t2 _ => ?_) (fun k q e2 v K2 f2 g2 => ?_)
                · refine ⟨⟨nI_pos (by omega), n30⟩, c103 (a := a) (b := b) (p' := p2) (fs.trans (Nat.le_refl _) (fs.trans (Nat.le_refl _) fK (fs_1 f2)) (fs_up (by omega) (Nat.le_refl _))) (tC_up (by decide) (by decide) t2) ?_ ?_ ?_ ?_ (by rw [eA, eB]; exact mapR_r e2)⟩
                  · rw [m_up_ne (by decide), f2 23 (by decide)]; exact k5
                  · rw [m_up_ne (by decide), f2 24 (by decide)]; exact k24
                  · rw [m_up_ne (by decide), f2 25 (by decide)]; exact k25
                  · rw [m_up_at, if_pos rfl]
                · exact ⟨⟨nI_pos (by omega), n30⟩, f103 (fs.trans (Nat.le_refl _) (fs.trans (Nat.le_refl _) fK (fs_1 f2)) (fs_up (by omega) (Nat.le_refl _))) (fC_up (by decide) (by decide) g2) (by rw [eA, eB]; exact mapR_l e2)⟩
              by_cases i0 : i = 0
              · exact bq_t (by rw [i0]; rfl) (go2 4 3 (by rw [if_pos i0]) (by decide))
              · exact bq_f (fun z => i0 ((nI_eq (a := i) (b := 0) (by omega) (by omega)).mp z)) (go2 10 9 (by rw [if_neg i0]) (by decide))
          · refine ⟨⟨nI_pos (by omega), n30⟩, ?_⟩
            have gK : ∀ u, fC (m_up K1 25 σ.1 u) N w k q := fun u => fC_up (by decide) (by decide) g1
            have fK : ∀ u, fs σ.1 I (m_up K1 25 σ.1 u) := fun u => fs.trans (Nat.le_refl _) (fs.trans (Nat.le_refl _) fJ1 (fs_1 f1)) (fs_up (by omega) (Nat.le_refl _))
            have eF : stpR N w F f g p σ = .inl (k, q) := by rw [eA]; exact bndR_l e1
            exact ⟨fun _ => f103 (fK _) (gK _) eF, fun _ => q_isFine_f (gK _) (bq_t rfl (f103 (fK _) (gK _) eF))⟩
        · refine bq_t (nI_lt (a := 2) (b := i) (by omega) (by omega)) ?_
          exact c103 (a := 0) (b := 0) fJ1 tJ1 j5 j24 j25 j26 (stp_p ei (by omega) i6)
    by_cases i6 : i = 6
    · refine bq_t (by rw [i6]; rfl) ?_
      by_cases c : x < 6
      · exact bq_t (nI_lt (a := x) (b := 6) c (by omega)) (go (fun _ => by rw [hx]; exact decide_eq_true c))
      · have gf : g = false := by rw [hx]; exact decide_eq_false c
        subst gf
        subst i6
        refine bq_f (nI_nlt (a := x) (b := 6) (by omega) (by omega)) ?_
        rw [mJ]
        refine q_fail_t (k := 3) tJ (by omega) (fun K fK gK => ?_)
        exact f15 (fs_1 (fJ.trans fK)) gK (stp_a3 ei)
    · exact bq_f (fun z => i6 ((nI_eq (a := i) (b := 6) (by omega) (by omega)).mp z)) (go (fun z => absurd z i6))
  · exact bq_f (by decide) (f15 (fs_1 fJ) gJ (stp_n en))
theorem c_lstD {X : Nat × (Nat → Int32)} (hF : F ≤ 8) (hN : N ≤ 150) : ∀ (n x e : Nat), n + 1 + x = 7 → n + 1 ≤ e → CS N w F (lstD N w F (n + 1)) (fun I T Q => ev (e, X) 97 0 [some (.ref 23), some (.ref 1), some (.int (nI x)), none, none] [] I T Q)
  | n, x, 0, _, h => absurd h (by omega)
  | n, x, e + 1, hx, he => by
    have gx : decide (0 < n) = decide (x < 6) := by
      by_cases c : 0 < n
      · rw [decide_eq_true c, decide_eq_true (by omega)]
      · rw [decide_eq_false c, decide_eq_false (by omega)]
    have cU : CS N w F (stpR N w F (lstD N w F n) (decide (0 < n))) (fun I T Q => ev (e + 1, X) 98 0 [some (.ref 23), some (.ref 1), some (.int (nI x)), none, none] [] I T Q) := c_stp hF gx (by omega) hN (fun h => by
      have hn : 0 < n := of_decide_eq_true h
      match n, hn with
      | n + 1, _ => exact c_lstD hF hN n (x + 1) e (by omega) (by omega)) (fun _ => gS_lstD n)
    intro I T Q p σ t h5 hn h4 h1 h0
    show ev (e + 1, X) 97 0 [some (.ref 23), some (.ref 1), some (.int (nI x)), none, none] [] I T Q
    have ex : 6 - n = x := by omega
    have eL : lstD N w F (n + 1) p σ = lstR N w x (stpR N w F (lstD N w F n) (decide (0 < n))) 31 p σ := by rw [lstD, ex]
    rw [eL] at h1 h0
    refine s_Plan_readSteps_0 ?_
    unfold t_Plan_readSteps_0
    exact l_rs hN (by omega) cU (gT_stp (fun _ => gS_lstD n)) 31 0 p σ I (by omega) (by omega) t h5 hn h4 h1 h0
theorem q_planRead {X : Nat × (Nat → Int32)} (hF : F ≤ 8) (hN : N ≤ 150) (t : tC I N w 0) (h1 : ∀ σ p', lstD N w F 7 0 (0, fun _ => (0, 0, 0, 0)) = .inr (σ, p') → ∀ K, FR [1, 23, 24, 25, 26, 27] I K → tC K N w p' → K 23 5 = nI σ.1 → (∀ k, k < σ.1 → eC K k (σ.2 k)) → Q (.inl none) K T) (h0 : ∀ k q, lstD N w F 7 0 (0, fun _ => (0, 0, 0, 0)) = .inl (k, q) → ∀ K, FR [1, 23, 24, 25, 26, 27] I K → fC K N w k q → Q (.inl none) K T) : ev (16, X) 96 0 [some (.ref 23), some (.ref 1), some (.int (nI F))] [] I T Q := by
  refine s_Plan_read_0 ?_
  unfold t_Plan_read_0
  have f0 : FR [1, 23, 24, 25, 26, 27] I (m_up (m_up I 23 4 (nI F)) 23 5 0) := (FR.up (by decide) _ _).trans (FR.up (by decide) _ _)
  exact c_lstD hF hN 6 0 16 (by omega) (by omega) _ _ _ 0 (0, fun _ => (0, 0, 0, 0)) (tC_fr t rfl rfl) (by show 5 * 0 ≤ 0; omega) rfl rfl (fun σ' p' e J f tJ n c => h1 σ' p' e J (f0.trans f.1) tJ n (fun k hk => c k (Nat.zero_le _) hk)) (fun k q e J f g => h0 k q e J (f0.trans f.1) g)
end WORKC2
