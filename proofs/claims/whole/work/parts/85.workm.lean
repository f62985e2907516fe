/-! ===== work: the reference's reader ===== -/
def ft (m : Nat) (I J : II) : Prop := (∀ c, c ≠ 46 → ¬ (428 ≤ c ∧ c < 508) → J c = I c) ∧ (∀ j, j ≠ 4 → j ≠ 5 → j ≠ 6 → j ≠ 8 → j ≠ 28 → J 46 j = I 46 j) ∧ ∀ k, k < m → k < 80 → J (428 + k) = I (428 + k)
theorem ft.refl (m : Nat) (I : II) : ft m I I := ⟨fun _ _ _ => rfl, fun _ _ _ _ _ _ => rfl, fun _ _ _ => rfl⟩
theorem ft.trans {m n : Nat} {I J K : II} (hmn : m ≤ n) (h : ft m I J) (k : ft n J K) : ft m I K := ⟨fun c a b => (k.1 c a b).trans (h.1 c a b), fun j a b c d e => (k.2.1 j a b c d e).trans (h.2.1 j a b c d e), fun j a b => (k.2.2 j (by omega) b).trans (h.2.2 j a b)⟩
theorem ft_m {m : Nat} {I J : II} (h : fm I J) : ft m I J := ⟨fun c a _ => h.1 c (by simpa using a), fun j a b c _ _ => h.2 j a b c, fun k _ b => h.1 (428 + k) (by simp; omega)⟩
theorem ft_8 {m : Nat} {I : II} {v : Int32} : ft m I (m_up I 46 8 v) := ⟨fun c a _ => m_up_ne a, fun j _ _ _ h _ => by rw [m_up_at, if_neg h], fun k _ b => m_up_ne (by omega)⟩
theorem ft_28 {m : Nat} {I : II} {v : Int32} : ft m I (m_up I 46 28 v) := ⟨fun c a _ => m_up_ne a, fun j _ _ _ _ h => by rw [m_up_at, if_neg h], fun k _ b => m_up_ne (by omega)⟩
theorem ft_up {m c j : Nat} {I : II} {v : Int32} (hc : 428 + m ≤ c ∧ c < 508) : ft m I (m_up I c j v) := ⟨fun d a b => m_up_ne (by omega), fun j _ _ _ _ _ => by rw [m_up_ne (by omega)], fun k a b => m_up_ne (by omega)⟩
def eM0 (J : II) (k : Nat) (e : SE) : Prop := J (428 + k) 0 = nI e.1 ∧ (e.1 ≤ 2 ∨ e.1 = 6 → J (428 + k) 1 = nI e.2.1) ∧ (e.1 = 0 ∨ e.1 = 2 → J (428 + k) 2 = nI e.2.2.1)
def eM (J : II) (k : Nat) (e : SE) : Prop := eM0 J k e ∧ J (428 + k) 3 = nI e.2.2.2
theorem eM0.of {J K : II} {k : Nat} {e : SE} (h : eM0 J k e) (q : ∀ j, j ≠ 3 → K (428 + k) j = J (428 + k) j) : eM0 K k e := by
  unfold eM0
  rw [q 0 (by omega), q 1 (by omega), q 2 (by omega)]
  exact h
theorem eM.of {J K : II} {k : Nat} {e : SE} (h : eM J k e) (q : K (428 + k) = J (428 + k)) : eM K k e := by
  unfold eM eM0
  rw [q]
  exact h
section WORKM
variable {E : MEnv} {I : II} {T : TT} {Q : QQ} {N F : Nat} {w : Nat → Nat}
theorem qn_step {p : Nat} (h : tM I N w p) (h1 : ∀ i, kx W5 (wd N w p) 0 = some i → Q (.inl (some (.int (nI i)))) (m_up I 46 4 (nI (bl N w p))) T) (h0 : kx W5 (wd N w p) 0 = none → Q (.inl (some (.int (-1)))) (m_up I 46 4 (nI (bl N w p))) T) : ev E 146 0 [some (.ref 46)] [] I T Q := by
  refine s_M_stepHere_0 ?_
  unfold t_M_stepHere_0 t_M_stepHere_78
  refine qn_isWord (a := 16) (b := 21) (c := 20) (d := 0) (e := 0) (f := 0) (t := [116, 117, 112]) (by omega) (by decide) (by decide) (by decide) h (fun y0 => ?_) (fun y0 => ?_)
  · exact bq_f (by decide) (h1 0 (by rw [W5, kx, if_pos y0]))
  · refine bq_t rfl ?_
    refine qn_isW (a := 15) (b := 21) (c := 20) (d := 0) (e := 0) (f := 0) (t := [116, 117, 111]) (by omega) (by decide) (by decide) (by decide) h (fun y1 => ?_) (fun y1 => ?_)
    · exact bq_f (by decide) (h1 1 (by rw [W5, kx, if_neg y0, kx, if_pos y1]))
    · refine bq_t rfl ?_
      refine qn_isW (a := 4) (b := 18) (c := 1) (d := 23) (e := 0) (f := 0) (t := [119, 97, 114, 100]) (by omega) (by decide) (by decide) (by decide) h (fun y2 => ?_) (fun y2 => ?_)
      · exact bq_f (by decide) (h1 2 (by rw [W5, kx, if_neg y0, kx, if_neg y1, kx, if_pos y2]))
      · refine bq_t rfl ?_
        refine qn_isW (a := 4) (b := 18) (c := 9) (d := 22) (e := 5) (f := 0) (t := [101, 118, 105, 114, 100]) (by omega) (by decide) (by decide) (by decide) h (fun y3 => ?_) (fun y3 => ?_)
        · exact bq_f (by decide) (h1 3 (by rw [W5, kx, if_neg y0, kx, if_neg y1, kx, if_neg y2, kx, if_pos y3]))
        · refine bq_t rfl ?_
          refine qn_isW (a := 8) (b := 15) (c := 13) (d := 5) (e := 0) (f := 0) (t := [101, 109, 111, 104]) (by omega) (by decide) (by decide) (by decide) h (fun y4 => ?_) (fun y4 => ?_)
          · exact bq_f (by decide) (h1 4 (by rw [W5, kx, if_neg y0, kx, if_neg y1, kx, if_neg y2, kx, if_neg y3, kx, if_pos y4]))
          · refine bq_t rfl ?_
            refine qn_isW (a := 18) (b := 5) (c := 19) (d := 20) (e := 0) (f := 0) (t := [116, 115, 101, 114]) (by omega) (by decide) (by decide) (by decide) h (fun y5 => ?_) (fun y5 => ?_)
            · exact bq_f (by decide) (h1 5 (by rw [W5, kx, if_neg y0, kx, if_neg y1, kx, if_neg y2, kx, if_neg y3, kx, if_neg y4, kx, if_pos y5]))
            · refine bq_t rfl ?_
              refine qn_isW (a := 1) (b := 7) (c := 1) (d := 9) (e := 14) (f := 0) (t := [110, 105, 97, 103, 97]) (by omega) (by decide) (by decide) (by decide) h (fun y6 => ?_) (fun y6 => ?_)
              · exact bq_f (by decide) (h1 6 (by rw [W5, kx, if_neg y0, kx, if_neg y1, kx, if_neg y2, kx, if_neg y3, kx, if_neg y4, kx, if_neg y5, kx, if_pos y6]))
              · exact bq_t rfl (h0 (by rw [W5, kx, if_neg y0, kx, if_neg y1, kx, if_neg y2, kx, if_neg y3, kx, if_neg y4, kx, if_neg y5, kx, if_neg y6, kx]))

theorem mK428 {k : Nat} (h : k < 80) : m_K (428 + k) = (1, 4) := by
  have : ∀ k : Fin 80, m_K (428 + k.val) = (1, 4) := by decide +kernel
  exact this ⟨k, h⟩
theorem tM_28 {J : II} {p : Nat} {v : Int32} (t : tM J N w p) : tM (m_up J 46 28 v) N w p := tM_7 (by omega) t
theorem fM_bl {J : II} {k q : Nat} (g : fM J N w k q) (hq : ∀ K, fm J K → fM K N w k q → Q (.inl none) K T) : ev E 60 0 [some (.ref 46)] [] J T Q := by
  obtain ⟨p3, hp3, h4⟩ := g.2.2.2.2
  refine qn_blanks g.1 hp3 h4 ?_
  exact hq _ (fm_4 _ _) ⟨g.1, g.2.1, g.2.2.1, g.2.2.2.1, _, (bl_le hp3).2, rfl⟩
/-- the contract of a step with its ';', by the reference -/
def MS (N : Nat) (w : Nat → Nat) (F x : Nat) (U : Nat → ST → RS ST) (P : II → TT → QQ → Prop) : Prop := ∀ (I : II) (T : TT) (Q : QQ) (p : Nat) (σ : ST), tM I N w p → 5 * σ.1 ≤ p → I 46 28 = nI σ.1 → I 50 0 = nI F → I 46 8 = nI x → (∀ σ' p1 p2, U p σ = .inr (σ', p1) → sgnR N w p1 59 = .inr ((), p2) → ∀ J, ft σ.1 I J → tM J N w p2 → J 46 28 = nI σ'.1 → J 46 8 = nI x → (∀ k, σ.1 ≤ k → k < σ'.1 → eM J k (σ'.2 k)) → Q (.inl none) J T) → (∀ k q, (U p σ = .inl (k, q) ∨ ∃ σ' p1, U p σ = .inr (σ', p1) ∧ sgnR N w p1 59 = .inl (k, q)) → ∀ J, ft σ.1 I J → fM J N w k q → Q (.inl none) J T) → P I T Q
theorem lm_rs {e : Nat} {X : Nat × (Nat → Int32)} {U : Nat → ST → RS ST} {x xx : Nat} (hK : m_K xx = (1, 4)) (hN : N ≤ 150) (hx : x ≠ 0) (hU : MS N w F x U (fun I T Q => ev (e, X) 145 0 [some (.ref 46), none, none] [] I T Q)) (hg : gT N U) : ∀ (d x3 p : Nat) (σ : ST) (J : II), x3 + d = 31 → x3 ≤ σ.1 → p ≤ N → tM J N w (bl N w p) → 5 * σ.1 ≤ p → J 46 28 = nI σ.1 → J 50 0 = nI F → J 46 8 = nI x → (∀ σ' p', lstR N w x U d p σ = .inr (σ', p') → ∀ K, ft σ.1 J K → tM K N w p' → K 46 28 = nI σ'.1 → K 46 8 = nI x → (∀ k, σ.1 ≤ k → k < σ'.1 → eM K k (σ'.2 k)) → t_M_readsStep_103 e X K T Q xx) → (∀ k q, lstR N w x U d p σ = .inl (k, q) → ∀ K, ft σ.1 J K → fM K N w k q → t_M_readsStep_103 e X K T Q xx) → t_M_readsStep_89 e X J T Q xx
  | 0, x3, p, σ, J, hd, hx3, hp, t, h5, _, _, _, _, _ => absurd hp (by omega)
  | d + 1, x3, p, σ, J, hd, hx3, hp, t, h5, hn, h50, h8, h1, h0 => by
    have hb := bl_le (w := w) hp
    have n6 := t.1.1
    have hw : bl N w p < N → w (bl N w p) < 256 := fun q => (t.1.2.2.2 _ q).1
    unfold t_M_readsStep_89
    refine bq_t t.2.2.2.1 ?_
    rw [t.2.2.1]
    refine qn_byteAt t.1 (by omega) ?_
    by_cases z : bl N w p < N ∧ w (bl N w p) = 93
    · have s : stopT N w x p := by unfold stopT; rw [if_neg hx]; exact z
      exact bq_t ((cv_eq (c := 93) (by omega) hw).mpr z) (h1 σ _ (lst_t s) J (ft.refl _ _) t hn h8 (fun k a b => absurd a (by omega)))
    · have s : ¬ stopT N w x p := by unfold stopT; rw [if_neg hx]; exact z
      refine bq_f (fun y => z ((cv_eq (c := 93) (by omega) hw).mp y)) ?_
      rw [lst_f s] at h1 h0
      refine hU _ _ _ (bl N w p) σ t (by omega) hn h50 h8 (fun σ1 p1 p2 e1 e2 J1 f1 t1 n1 k8 c1 => ?_) (fun k q e1 J1 f1 g1 => ?_)
      · obtain ⟨a1, a2, a3, a4, a5⟩ := hg _ _ _ _ hb.2 (by omega) e1
        rw [bndR_r e1] at h1 h0
        rw [bndR_r e2] at h1 h0
        have r2 := sgnR_pos a3 e2
        refine qn_blanks t1.1 t1.2.1 t1.2.2.1 ?_
        have fJ2 : ft σ.1 J (m_up J1 46 4 (nI (bl N w p2))) := ft.trans (Nat.le_refl _) f1 (ft_m (fm_4 _ _))
        refine s_M_readsStep_89 hK (lm_rs hK hN hx hU hg d (x3 + 1) p2 σ1 _ (by omega) (by omega) r2.2 (tM_at t1 (bl_le t1.2.1).2) (by omega) n1 (by rw [fJ2.1 50 (by omega) (by omega)]; exact h50) k8 (fun σ' p' e K fK tK nK k8' cK => ?_) (fun k q e K fK gK => ?_))
        · refine h1 σ' p' e K (ft.trans (by omega) fJ2 fK) tK nK k8' (fun k u v => ?_)
          obtain ⟨b1, b2, b3, b4, b5⟩ := gS_lst (w := w) (x := x) hg d _ _ _ _ r2.2 (by omega) e
          by_cases y : k < σ1.1
          · rw [b5 k y]
            exact (c1 k u y).of (by rw [fK.2.2 k y (by omega), m_up_ne (by omega)])
          · exact cK k (by omega) v
        · exact h0 k q e K (ft.trans (by omega) fJ2 fK) gK
      · refine fM_bl g1 (fun K fK gK => ?_)
        refine s_M_readsStep_89 hK ?_
        unfold t_M_readsStep_89
        refine bq_f (fM_ne gK) (h0 k q ?_ K (ft.trans (Nat.le_refl _) f1 (ft_m fK)) gK)
        rcases e1 with e1 | ⟨σ', p1, e1, e2⟩
        · exact bndR_l e1
        · rw [bndR_r e1]; exact bndR_l e2
theorem m_stp {e : Nat} {X : Nat × (Nat → Int32)} {U : Nat → ST → RS ST} {x : Nat} {g : Bool} (hF : F ≤ 8) (hx : g = decide (x < 6)) (hx6 : x ≤ 6) (hN : N ≤ 150) (hin : g = true → MS N w F (x + 1) U (fun I T Q => ev (e, X) 145 0 [some (.ref 46), none, none] [] I T Q)) (hg : g = true → gT N U) : MS N w F x (stpR N w F (lstR N w (x + 1) U 31) g) (fun I T Q => ev (e + 1, X) 145 0 [some (.ref 46), none, none] [] I T Q) := by
  intro I T Q p σ t h5 hn h50 h8 h1 h0
  have hp := t.2.1
  have hb := bl_le (w := w) hp
  have hl := le_le (w := w) hb.2
  have tb := tM_at t hb.2
  show ev (e + 1, X) 145 0 [some (.ref 46), none, none] [] I T Q
  refine s_M_readsStep_0 ?_
  unfold t_M_readsStep_0
  have f18 : ∀ {K : II} {k q : Nat} {x1 : Int32}, ft σ.1 I K → fM K N w k q → stpR N w F (lstR N w (x + 1) U 31) g p σ = .inl (k, q) → t_M_readsStep_18 e X K T Q x1 := fun fK gK eK => by
    unfold t_M_readsStep_18
    exact bq_f (fM_ne gK) (h0 _ _ (Or.inl eK) _ fK gK)
  refine qn_step t (fun i ei => ?_) (fun en => ?_)
  · obtain ⟨i7, w3, w4, w5⟩ := kx5 hp ei
    have n30 : σ.1 < 30 := by omega
    have mK : m_K (428 + σ.1) = (1, 4) := mK428 (by omega)
    -- the end of a step
    have f112 : ∀ {K : II} {k q : Nat}, ft σ.1 I K → fM K N w k q → stpR N w F (lstR N w (x + 1) U 31) g p σ = .inl (k, q) → t_M_readsStep_112 e X K T Q (428 + σ.1) := fun {K k q} fK gK eK => by
      unfold t_M_readsStep_112
      refine qn_sign_f _ (fM_up (c := 428 + σ.1) (by omega) (by omega) gK) ?_
      exact h0 k q (Or.inl eK) _ (ft.trans (Nat.le_refl _) fK (ft_up (by omega))) (fM_up (by omega) (by omega) gK)
    have c112 : ∀ {K : II} {σ' : ST} {p1 : Nat}, ft σ.1 I K → tM K N w p1 → K 46 28 = nI σ'.1 → K 46 8 = nI x → stpR N w F (lstR N w (x + 1) U 31) g p σ = .inr (σ', p1) → eM0 K σ.1 (σ'.2 σ.1) → (σ'.2 σ.1).2.2.2 = σ'.1 → (∀ k, σ.1 + 1 ≤ k → k < σ'.1 → k < 80 → eM K k (σ'.2 k)) → t_M_readsStep_112 e X K T Q (428 + σ.1) := fun {K σ' p1} fK tK k28 k8 eK e0 e3 er => by
      unfold t_M_readsStep_112
      rw [k28]
      have tK2 : tM (m_up K (428 + σ.1) 3 (nI σ'.1)) N w p1 := tM_up (by omega) (by omega) tK
      have fK2 : ft σ.1 I (m_up K (428 + σ.1) 3 (nI σ'.1)) := ft.trans (Nat.le_refl _) fK (ft_up (by omega))
      refine qn_sign_t (c := 59) (by omega) tK2 (fun p2 e2 J f tJ => ?_) (fun k q e2 J f gJ => ?_)
      · refine h1 σ' p1 p2 eK e2 J (ft.trans (Nat.le_refl _) fK2 (ft_m f)) tJ ?_ ?_ (fun k u v => ?_)
        · rw [f.2 28 (by omega) (by omega) (by omega), m_up_ne (by omega)]; exact k28
        · rw [f.2 8 (by omega) (by omega) (by omega), m_up_ne (by omega)]; exact k8
        · have k80 : k < 80 := by
            have := (gT_stp (F := F) (w := w) (g := g) (fun h => gS_lst (w := w) (x := x + 1) (hg h) 31)) p σ σ' p1 hp h5 eK
            omega
          have jk : J (428 + k) = (m_up K (428 + σ.1) 3 (nI σ'.1)) (428 + k) := f.1 (428 + k) (by simp; omega)
          by_cases z : k = σ.1
          · subst z
            refine ⟨e0.of (fun j hj => by rw [jk, m_up_at, if_neg hj]), ?_⟩
            rw [jk, m_up_at, if_pos rfl, e3]
          · exact (er k (by omega) v k80).of (by rw [jk, m_up_ne (by omega)])
      · exact h0 k q (Or.inr ⟨σ', p1, eK, e2⟩) J (ft.trans (Nat.le_refl _) fK2 (ft_m f)) gJ
    have go : ∀ (J : II) (xx : Nat), ft σ.1 I J → tM J N w (bl N w p) → J 46 28 = nI σ.1 → J 50 0 = nI F → J 46 8 = nI xx → (i = 6 → g = true ∧ xx = x + 1) → (i ≠ 6 → xx = x) → t_M_readsStep_18 e X J T Q (nI i) := fun J xx fJ tJ n28 n50 n8 h6 h6' => by
      unfold t_M_readsStep_18
      refine bq_t tJ.2.2.2.1 ?_
      refine qn_skipW tJ ?_
      show (¬ (J 46 28) < 0 ∧ (J 46 28).toNatClampNeg < 80) ∧ (_ ∧ _)
      have e28 : (m_up J 46 4 (nI (le N w (bl N w p)))) 46 28 = nI σ.1 := n28
      rw [e28, n28, nI_clamp (by omega), nI_1]
      refine ⟨⟨nI_pos (by omega), by omega⟩, ?_⟩
      generalize hJ1 : m_up (m_up (m_up J 46 4 (nI (le N w (bl N w p)))) 46 28 (nI (σ.1 + 1))) (428 + σ.1) 0 (nI i) = J1
      have tJ1 : tM J1 N w (le N w (bl N w p)) := by rw [← hJ1]; exact tM_up (by omega) (by omega) (tM_28 (tM_at tJ hl.2))
      have fJ1 : ft σ.1 I J1 := by
        rw [← hJ1]
        exact ft.trans (Nat.le_refl _) (ft.trans (Nat.le_refl _) (ft.trans (Nat.le_refl _) fJ (ft_m (fm_4 _ _))) ft_28) (ft_up (by omega))
      have j28 : J1 46 28 = nI (σ.1 + 1) := by rw [← hJ1, m_up_ne (by omega)]; rfl
      have j8 : J1 46 8 = nI xx := by rw [← hJ1, m_up_ne (by omega)]; exact n8
      have j50 : J1 50 0 = nI F := by rw [fJ1.1 50 (by omega) (by omega)]; exact h50
      have jr : J1 (428 + σ.1) 0 = nI i := by rw [← hJ1, m_up_at, if_pos rfl]
      by_cases i3 : 3 ≤ i
      · refine bq_t (nI_le (a := 3) (b := i) i3 (by omega)) ?_
        unfold t_M_readsStep_55 t_M_readsStep_64 t_M_readsStep_74
        refine bq_f (fun z => absurd ((nI_eq (a := i) (b := 0) (by omega) (by omega)).mp z) (by omega)) ?_
        refine bq_f (fun z => absurd ((nI_eq (a := i) (b := 2) (by omega) (by omega)).mp z) (by omega)) ?_
        by_cases i6 : i = 6
        · obtain ⟨gt, hxx⟩ := h6 i6
          subst gt hxx i6
          have eA : stpR N w F (lstR N w (x + 1) U 31) true p σ = agnR N w (lstR N w (x + 1) U 31) (le N w (bl N w p)) σ := stp_a ei
          refine bq_t rfl ?_
          -- a fault within
          have ff : ∀ {K : II} {k q : Nat}, ft σ.1 I K → fM K N w k q → stpR N w F (lstR N w (x + 1) U 31) true p σ = .inl (k, q) → t_M_readsStep_103 e X K T Q (428 + σ.1) := fun fK gK eK => by
            unfold t_M_readsStep_103
            refine qn_sign_f _ gK ?_
            exact f112 (ft.trans (Nat.le_refl _) fK ft_8) (fM_8 gK) eK
          have ff89 : ∀ {K : II} {k q : Nat}, ft σ.1 I K → fM K N w k q → stpR N w F (lstR N w (x + 1) U 31) true p σ = .inl (k, q) → ev (e + 1, X) 60 0 [some (.ref 46)] [] K T (KV (fun I3 T3 => t_M_readsStep_89 e X I3 T3 Q (428 + σ.1)) (fun x I1 T1 => Q (.inr x) I1 T1)) := fun fK gK eK => by
            refine fM_bl gK (fun K2 f2 g2 => ?_)
            show t_M_readsStep_89 e X K2 T Q (428 + σ.1)
            unfold t_M_readsStep_89
            exact bq_f (fM_ne g2) (ff (ft.trans (Nat.le_refl _) fK (ft_m f2)) g2 eK)
          refine qn_num_t (lo := 0) (hi := 61) (by omega) (by omega) tJ1 (fun a p1 e1 K1 f1 t1 => ?_) (fun k q e1 K1 f1 g1 => ?_)
          · have r1 := numR_pos hl.2 e1
            have fK1 : ft σ.1 I (m_up K1 (428 + σ.1) 1 (nI a)) := ft.trans (Nat.le_refl _) (ft.trans (Nat.le_refl _) fJ1 (ft_m f1)) (ft_up (by omega))
            refine qn_sign_t (c := 91) (by omega) (tM_up (by omega) (by omega) t1) (fun p2 e2 K2 f2 t2 => ?_) (fun k q e2 K2 f2 g2 => ?_)
            · have r2 := sgnR_pos r1.2 e2
              have w5' := w5 rfl
              refine qn_blanks t2.1 t2.2.1 t2.2.2.1 ?_
              have fK2 : ft σ.1 I (m_up K2 46 4 (nI (bl N w p2))) := ft.trans (Nat.le_refl _) (ft.trans (Nat.le_refl _) fK1 (ft_m f2)) (ft_m (fm_4 _ _))
              generalize hK3 : m_up K2 46 4 (nI (bl N w p2)) = K3 at fK2 ⊢
              have tK3 : tM K3 N w (bl N w p2) := by rw [← hK3]; exact tM_at t2 (bl_le t2.2.1).2
              have kj : ∀ j, j ≠ 4 → j ≠ 5 → j ≠ 6 → K3 46 j = J1 46 j := fun j a b c => by
                rw [← hK3, m_up_at, if_neg a, f2.2 j a b c, m_up_ne (by omega), f1.2 j a b c]
              have kr : K3 (428 + σ.1) 0 = nI 6 ∧ K3 (428 + σ.1) 1 = nI a := by
                rw [← hK3, m_up_ne (by omega), f2.1 (428 + σ.1) (by simp; omega), m_up_at, if_neg (by omega), m_up_at, if_pos rfl, f1.1 (428 + σ.1) (by simp; omega)]
                exact ⟨jr, rfl⟩
              refine lm_rs mK hN (by omega) (hin rfl) (hg rfl) 31 0 p2 (σ.1 + 1, σ.2) K3 (by omega) (by omega) r2.2 tK3 (by show 5 * (σ.1 + 1) ≤ p2; omega) (by rw [kj 28 (by omega) (by omega) (by omega)]; exact j28) (by rw [fK2.1 50 (by omega) (by omega)]; exact h50) (by rw [kj 8 (by omega) (by omega) (by omega)]; exact j8) (fun σ' p3 e3 K4 f4 t4 n4 k84 c4 => ?_) (fun k q e3 K4 f4 g4 => ?_)
              · obtain ⟨a1, a2, a3, a4, a5⟩ := gS_lst (w := w) (x := x + 1) (hg rfl) 31 _ _ _ _ r2.2 (by show 5 * (σ.1 + 1) ≤ p2; omega) e3
                have a4' : σ.1 + 1 ≤ σ'.1 := a4
                have fK4 : ft σ.1 I K4 := ft.trans (by show σ.1 ≤ σ.1 + 1; omega) fK2 f4
                unfold t_M_readsStep_103
                refine qn_sign_t (c := 93) (by omega) t4 (fun p4 e4 K5 f5 t5 => ?_) (fun k q e4 K5 f5 g5 => ?_)
                · have e8 : K5 46 8 - 1 = nI x := by rw [f5.2 8 (by omega) (by omega) (by omega), k84]; exact nI_pred x
                  show t_M_readsStep_112 e X (m_up K5 46 8 (K5 46 8 - 1)) T Q (428 + σ.1)
                  rw [e8]
                  have kk : ∀ k, k < 80 → (m_up K5 46 8 (nI x)) (428 + k) = K4 (428 + k) := fun k hk => by rw [m_up_ne (by omega), f5.1 (428 + k) (by simp; omega)]
                  refine c112 (σ' := (σ'.1, uS σ'.2 σ.1 (6, a, 0, σ'.1))) (p1 := p4) (ft.trans (Nat.le_refl _) (ft.trans (Nat.le_refl _) fK4 (ft_m f5)) ft_8) (mB_8 t5) ?_ rfl ?_ ?_ ?_ (fun k u v k80 => ?_)
                  · rw [m_up_at, if_neg (by omega), f5.2 28 (by omega) (by omega) (by omega)]; exact n4
                  · rw [eA]; unfold agnR; rw [bndR_r e1, bndR_r e2, bndR_r e3]; exact mapR_r e4
                  · show eM0 _ _ (uS σ'.2 σ.1 (6, a, 0, σ'.1) σ.1)
                    rw [uS_eq]
                    unfold eM0
                    rw [kk σ.1 (by omega), f4.2.2 σ.1 (by show σ.1 < σ.1 + 1; omega) (by omega)]
                    exact ⟨kr.1, fun _ => kr.2, fun z => absurd z (by show ¬ (6 = 0 ∨ 6 = 2); omega)⟩
                  · show (uS σ'.2 σ.1 (6, a, 0, σ'.1) σ.1).2.2.2 = σ'.1
                    rw [uS_eq]
                  · show eM _ _ (uS σ'.2 σ.1 (6, a, 0, σ'.1) k)
                    rw [uS_ne (by omega)]
                    exact (c4 k u v).of (kk k k80)
                · exact f112 (ft.trans (Nat.le_refl _) (ft.trans (Nat.le_refl _) fK4 (ft_m f5)) ft_8) (fM_8 g5) (by rw [eA]; unfold agnR; rw [bndR_r e1, bndR_r e2, bndR_r e3]; exact mapR_l e4)
              · exact ff (ft.trans (by show σ.1 ≤ σ.1 + 1; omega) fK2 f4) g4 (by rw [eA]; unfold agnR; rw [bndR_r e1, bndR_r e2]; exact bndR_l e3)
            · exact ff89 (ft.trans (Nat.le_refl _) fK1 (ft_m f2)) g2 (by rw [eA]; unfold agnR; rw [bndR_r e1]; exact bndR_l e2)
          · have g2 : fM (m_up K1 (428 + σ.1) 1 0) N w k q := fM_up (by omega) (by omega) g1
            refine qn_sign_f _ g2 ?_
            exact ff89 (ft.trans (Nat.le_refl _) (ft.trans (Nat.le_refl _) fJ1 (ft_m f1)) (ft_up (by omega))) g2 (by rw [eA]; exact bndR_l e1)
        · have hxx := h6' i6
          subst hxx
          refine bq_f (fun z => i6 ((nI_eq (a := i) (b := 6) (by omega) (by omega)).mp z)) ?_
          refine c112 (σ' := s1S σ i 0 0) fJ1 tJ1 j28 j8 (stp_p ei i3 i6) ?_ ?_ (fun k u v => absurd v (by show ¬ k < σ.1 + 1; omega))
          · show eM0 _ _ (uS σ.2 σ.1 (i, 0, 0, σ.1 + 1) σ.1)
            rw [uS_eq]
            exact ⟨jr, fun z => absurd z (by show ¬ (i ≤ 2 ∨ i = 6); omega), fun z => absurd z (by show ¬ (i = 0 ∨ i = 2); omega)⟩
          · show (uS σ.2 σ.1 (i, 0, 0, σ.1 + 1) σ.1).2.2.2 = σ.1 + 1
            rw [uS_eq]
      · have i6 : i ≠ 6 := by omega
        have hxx := h6' i6
        subst hxx
        have eA : stpR N w F (lstR N w (xx + 1) U 31) g p σ = argR N w F i (le N w (bl N w p)) σ := stp_r ei (by omega)
        refine bq_f (nI_ge (a := i) (b := 3) (by omega) (by omega)) ?_
        rw [j50]
        -- faults
        have ff74 : ∀ {K : II} {k q : Nat}, ft σ.1 I K → fM K N w k q → stpR N w F (lstR N w (xx + 1) U 31) g p σ = .inl (k, q) → t_M_readsStep_74 e X K T Q (nI i) (428 + σ.1) := fun fK gK eK => by
          unfold t_M_readsStep_74
          exact bq_f (fun z => i6 ((nI_eq (a := i) (b := 6) (by omega) (by omega)).mp z)) (f112 fK gK eK)
        have ff55 : ∀ {K : II} {k q : Nat}, ft σ.1 I K → fM K N w k q → stpR N w F (lstR N w (xx + 1) U 31) g p σ = .inl (k, q) → t_M_readsStep_55 e X K T Q (nI i) (428 + σ.1) := fun {K k q} fK gK eK => by
          have f64 : ∀ {K : II}, ft σ.1 I K → fM K N w k q → t_M_readsStep_64 e X K T Q (nI i) (428 + σ.1) := fun {K} fK gK => by
            unfold t_M_readsStep_64
            refine ⟨fun _ => ?_, fun _ => ff74 fK gK eK⟩
            refine qn_num_f _ _ gK ?_
            exact ff74 (ft.trans (Nat.le_refl _) fK (ft_up (by omega))) (fM_up (by omega) (by omega) gK) eK
          unfold t_M_readsStep_55
          refine ⟨fun _ => ?_, fun _ => f64 fK gK⟩
          refine qn_num_f _ _ gK ?_
          exact f64 (ft.trans (Nat.le_refl _) fK (ft_up (by omega))) (fM_up (by omega) (by omega) gK)
        refine qn_num_t (lo := 0) (hi := F) (by omega) (by omega) tJ1 (fun a p1 e1 K1 f1 t1 => ?_) (fun k q e1 K1 f1 g1 => ?_)
        · have r1 := numR_pos hl.2 e1
          show t_M_readsStep_55 e X (m_up K1 (428 + σ.1) 1 (nI a)) T Q (nI i) (428 + σ.1)
          have fK : ft σ.1 I (m_up K1 (428 + σ.1) 1 (nI a)) := ft.trans (Nat.le_refl _) (ft.trans (Nat.le_refl _) fJ1 (ft_m f1)) (ft_up (by omega))
          have tK : tM (m_up K1 (428 + σ.1) 1 (nI a)) N w p1 := tM_up (by omega) (by omega) t1
          have k28 : (m_up K1 (428 + σ.1) 1 (nI a)) 46 28 = nI (σ.1 + 1) := by rw [m_up_ne (by omega), f1.2 28 (by omega) (by omega) (by omega)]; exact j28
          have k8 : (m_up K1 (428 + σ.1) 1 (nI a)) 46 8 = nI xx := by rw [m_up_ne (by omega), f1.2 8 (by omega) (by omega) (by omega)]; exact j8
          have kr : (m_up K1 (428 + σ.1) 1 (nI a)) (428 + σ.1) 0 = nI i ∧ (m_up K1 (428 + σ.1) 1 (nI a)) (428 + σ.1) 1 = nI a := by
            rw [m_up_at, if_neg (by omega), m_up_at, if_pos rfl, f1.1 (428 + σ.1) (by simp; omega)]
            exact ⟨jr, rfl⟩
          generalize hK : m_up K1 (428 + σ.1) 1 (nI a) = K at fK tK k28 k8 kr ⊢
          have two : ∀ (hi2 : Nat), i ≠ 1 → hi2 = (if i = 0 then 4 else 10) → ev (e + 1, X) 71 0 [some (.ref 46), some (.int 0), some (.int (nI hi2 - 1)), none, none] [] K T (KI (fun v1 I1 T1 => t_M_readsStep_74 e X (m_up I1 (428 + σ.1) 2 v1) T1 Q (nI i) (428 + σ.1)) (fun x I1 T1 => Q (.inr x) I1 T1)) := fun hi2 i1 hh => by
            have eB : argR N w F i (le N w (bl N w p)) σ = mapR (numR N w p1 0 hi2) (fun b => s1S σ i a b) := by unfold argR; rw [bndR_r e1, if_neg i1, hh]
            have h10 : hi2 ≤ 10 := by rw [hh]; split <;> omega
            refine qn_num_t (lo := 0) (hi := hi2) (by omega) (by omega) tK (fun b p2 e2 K2 f2 t2 => ?_) (fun k q e2 K2 f2 g2 => ?_)
            · show t_M_readsStep_74 e X (m_up K2 (428 + σ.1) 2 (nI b)) T Q (nI i) (428 + σ.1)
              unfold t_M_readsStep_74
              refine bq_f (fun z => i6 ((nI_eq (a := i) (b := 6) (by omega) (by omega)).mp z)) ?_
              refine c112 (σ' := s1S σ i a b) (p1 := p2) (ft.trans (Nat.le_refl _) (ft.trans (Nat.le_refl _) fK (ft_m f2)) (ft_up (by omega))) (tM_up (by omega) (by omega) t2) ?_ ?_ (by rw [eA, eB]; exact mapR_r e2) ?_ ?_ (fun k u v => absurd v (by show ¬ k < σ.1 + 1; omega))
              · rw [m_up_ne (by omega), f2.2 28 (by omega) (by omega) (by omega)]; exact k28
              · rw [m_up_ne (by omega), f2.2 8 (by omega) (by omega) (by omega)]; exact k8
              · show eM0 _ _ (uS σ.2 σ.1 (i, a, b, σ.1 + 1) σ.1)
                rw [uS_eq]
                unfold eM0
                rw [m_up_at, if_neg (by omega), m_up_at, if_neg (by omega), m_up_at, if_pos rfl, f2.1 (428 + σ.1) (by simp; omega)]
                exact ⟨kr.1, fun _ => kr.2, fun _ => rfl⟩
              · show (uS σ.2 σ.1 (i, a, b, σ.1 + 1) σ.1).2.2.2 = σ.1 + 1
                rw [uS_eq]
            · exact ff74 (ft.trans (Nat.le_refl _) (ft.trans (Nat.le_refl _) fK (ft_m f2)) (ft_up (by omega))) (fM_up (by omega) (by omega) g2) (by rw [eA, eB]; exact mapR_l e2)
          unfold t_M_readsStep_55
          by_cases i0 : i = 0
          · refine bq_t (by rw [i0]; rfl) ?_
            have := two 4 (by omega) (by rw [if_pos i0])
            have n2 : ¬ nI i = 2 := fun z => absurd ((nI_eq (a := i) (b := 2) (by omega) (by omega)).mp z) (by omega)
            have e64 : (fun v1 I1 T1 => t_M_readsStep_64 e X (m_up I1 (428 + σ.1) 2 v1) T1 Q (nI i) (428 + σ.1)) = (fun v1 I1 T1 => t_M_readsStep_74 e X (m_up I1 (428 + σ.1) 2 v1) T1 Q (nI i) (428 + σ.1)) := by
              funext v1 I1 T1
              unfold t_M_readsStep_64
              exact propext ⟨fun h => h.2 n2, fun h => bq_f n2 h⟩
            rw [e64]
            exact this
          · refine bq_f (fun z => i0 ((nI_eq (a := i) (b := 0) (by omega) (by omega)).mp z)) ?_
            unfold t_M_readsStep_64
            by_cases i2 : i = 2
            · exact bq_t (by rw [i2]; rfl) (two 10 (by omega) (by rw [if_neg i0]))
            · have i1 : i = 1 := by omega
              refine bq_f (fun z => i2 ((nI_eq (a := i) (b := 2) (by omega) (by omega)).mp z)) ?_
              unfold t_M_readsStep_74
              refine bq_f (fun z => i6 ((nI_eq (a := i) (b := 6) (by omega) (by omega)).mp z)) ?_
              subst i1
              refine c112 (σ' := s1S σ 1 a 0) (p1 := p1) fK tK k28 k8 (by rw [eA]; unfold argR; rw [bndR_r e1]; exact if_pos rfl) ?_ ?_ (fun k u v => absurd v (by show ¬ k < σ.1 + 1; omega))
              · show eM0 _ _ (uS σ.2 σ.1 (1, a, 0, σ.1 + 1) σ.1)
                rw [uS_eq]
                exact ⟨kr.1, fun _ => kr.2, fun z => absurd z (by show ¬ (1 = 0 ∨ 1 = 2); omega)⟩
              · show (uS σ.2 σ.1 (1, a, 0, σ.1 + 1) σ.1).2.2.2 = σ.1 + 1
                rw [uS_eq]
        · exact ff55 (ft.trans (Nat.le_refl _) (ft.trans (Nat.le_refl _) fJ1 (ft_m f1)) (ft_up (by omega))) (fM_up (by omega) (by omega) g1) (by rw [eA]; exact bndR_l e1)
    refine bq_f (nI_m1 (by omega)) ?_
    have fb : ft σ.1 I (m_up I 46 4 (nI (bl N w p))) := ft_m (fm_4 _ _)
    unfold t_M_readsStep_11
    by_cases i6 : i = 6
    · refine bq_t (by rw [i6]; rfl) ?_
      refine qn_opens tb (x := x) h8 hx6 (fun c => ?_) (fun c K f gK => ?_)
      · exact bq_f (by decide) (go _ (x + 1) (ft.trans (Nat.le_refl _) fb ft_8) (mB_8 tb) hn h50 rfl (fun _ => ⟨by rw [hx]; exact decide_eq_true c, rfl⟩) (fun z => absurd i6 z))
      · have gf : g = false := by rw [hx]; exact decide_eq_false c
        subst gf i6
        exact bq_t rfl (h0 3 _ (Or.inl (stp_a3 ei)) K (ft.trans (Nat.le_refl _) fb (ft_m f)) gK)
    · exact bq_f (fun z => i6 ((nI_eq (a := i) (b := 6) (by omega) (by omega)).mp z)) (go _ x fb tb hn h50 h8 (fun z => absurd z i6) (fun _ => rfl))
  · refine bq_t rfl ?_
    show ev (e + 1, X) 69 0 [some (.ref 46), some (.int 1), some (.int (nI (bl N w p)))] [] _ T _
    refine qn_wrong_t (k := 1) tb (by omega) (fun K f gK => ?_)
    show t_M_readsStep_11 e X K T Q (-1)
    unfold t_M_readsStep_11
    exact bq_f (by decide) (f18 (ft_m ((fm_4 _ _).trans f)) gK (stp_n en))
end WORKM
