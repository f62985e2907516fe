/-! ===== work: the reference's reader, whole; what is read is sound ===== -/
section WORKM2
variable {E : MEnv} {I : II} {T : TT} {Q : QQ} {N F : Nat} {w : Nat → Nat}
theorem stp_false (f f' : Nat → ST → RS ST) (p : Nat) (σ : ST) : stpR N w F f false p σ = stpR N w F f' false p σ := by
  cases e : kx W5 (wd N w p) 0 with
  | none => rw [stp_n e, stp_n e]
  | some i =>
    by_cases i6 : i = 6
    · subst i6; rw [stp_a3 e, stp_a3 e]
    · by_cases i3 : i < 3
      · rw [stp_r e i3, stp_r e i3]
      · rw [stp_p e (by omega) i6, stp_p e (by omega) i6]
theorem m_stpD {X : Nat × (Nat → Int32)} (hF : F ≤ 8) (hN : N ≤ 150) : ∀ (n x e : Nat), n + x = 6 → n + 1 ≤ e → MS N w F x (stpR N w F (lstD N w F n) (decide (0 < n))) (fun I T Q => ev (e, X) 145 0 [some (.ref 46), none, none] [] I T Q)
  | n, x, 0, _, h => absurd h (by omega)
  | 0, x, e + 1, hx, he => by
    have e1 : stpR N w F (lstD N w F 0) (decide (0 < 0)) = stpR N w F (lstR N w (x + 1) (fun _ _ => .inl (0, 0)) 31) false := by
      funext p σ
      exact stp_false _ _ p σ
    rw [e1]
    exact m_stp hF (by rw [decide_eq_false (by omega)]) (by omega) hN (fun h => by cases h) (fun h => by cases h)
  | n + 1, x, e + 1, hx, he => by
    have e1 : lstD N w F (n + 1) = lstR N w (x + 1) (stpR N w F (lstD N w F n) (decide (0 < n))) 31 := by
      funext p σ
      rw [lstD, show 6 - n = x + 1 by omega]
    rw [e1]
    exact m_stp hF (by rw [decide_eq_true (by omega), decide_eq_true (by omega)]) (by omega) hN (fun _ => m_stpD hF hN n (x + 1) e (by omega) (by omega)) (fun _ => gT_stp (fun _ => gS_lstD n))
theorem lm_top {U : Nat → ST → RS ST} (hN : N ≤ 150) (hU : MS N w F 0 U (fun I T Q => ev E 145 0 [some (.ref 46), none, none] [] I T Q)) (hg : gT N U) : ∀ (d x3 p : Nat) (σ : ST) (J : II), x3 + d = 31 → x3 ≤ σ.1 → p ≤ N → tM J N w (bl N w p) → 5 * σ.1 ≤ p → J 46 28 = nI σ.1 → J 50 0 = nI F → J 46 8 = nI 0 → (∀ σ' p', lstR N w 0 U d p σ = .inr (σ', p') → ∀ K, ft σ.1 J K → tM K N w p' → K 46 28 = nI σ'.1 → (∀ k, σ.1 ≤ k → k < σ'.1 → eM K k (σ'.2 k)) → t_M_work_53 E K T Q) → (∀ k q, lstR N w 0 U d p σ = .inl (k, q) → ∀ K, ft σ.1 J K → fM K N w k q → t_M_work_53 E K T Q) → t_M_work_40 E J T Q
  | 0, x3, p, σ, J, hd, hx3, hp, t, h5, _, _, _, _, _ => absurd hp (by omega)
  | d + 1, x3, p, σ, J, hd, hx3, hp, t, h5, hn, h50, h8, h1, h0 => by
    have hb := bl_le (w := w) hp
    have n6 := t.1.1
    unfold t_M_work_40
    refine bq_t t.2.2.2.1 ?_
    rw [t.1.2.2.1, t.2.2.1]
    by_cases z : bl N w p = N
    · have s : stopT N w 0 p := by unfold stopT; rw [if_pos rfl]; exact z
      exact bq_t (by rw [z]; exact nI_le (Nat.le_refl _) (by omega)) (h1 σ _ (lst_t s) J (ft.refl _ _) t hn (fun k a b => absurd a (by omega)))
    · have s : ¬ stopT N w 0 p := by unfold stopT; rw [if_pos rfl]; exact z
      refine bq_f (nI_ge (by omega) (by omega)) ?_
      rw [lst_f s] at h1 h0
      refine hU _ _ _ (bl N w p) σ t (by omega) hn h50 h8 (fun σ1 p1 p2 e1 e2 J1 f1 t1 n1 k8 c1 => ?_) (fun k q e1 J1 f1 g1 => ?_)
      · obtain ⟨a1, a2, a3, a4, a5⟩ := hg _ _ _ _ hb.2 (by omega) e1
        rw [bndR_r e1] at h1 h0
        rw [bndR_r e2] at h1 h0
        have r2 := sgnR_pos a3 e2
        refine qn_blanks t1.1 t1.2.1 t1.2.2.1 ?_
        have fJ2 : ft σ.1 J (m_up J1 46 4 (nI (bl N w p2))) := ft.trans (Nat.le_refl _) f1 (ft_m (fm_4 _ _))
        refine s_M_work_40 (lm_top hN hU hg d (x3 + 1) p2 σ1 _ (by omega) (by omega) r2.2 (tM_at t1 (bl_le t1.2.1).2) (by omega) n1 (by rw [fJ2.1 50 (by omega) (by omega)]; exact h50) k8 (fun σ' p' e K fK tK nK cK => ?_) (fun k q e K fK gK => ?_))
        · refine h1 σ' p' e K (ft.trans (by omega) fJ2 fK) tK nK (fun k u v => ?_)
          obtain ⟨b1, b2, b3, b4, b5⟩ := gS_lst (w := w) (x := 0) hg d _ _ _ _ r2.2 (by omega) e
          by_cases y : k < σ1.1
          · rw [b5 k y]
            exact (c1 k u y).of (by rw [fK.2.2 k y (by omega), m_up_ne (by omega)])
          · exact cK k (by omega) v
        · exact h0 k q e K (ft.trans (by omega) fJ2 fK) gK
      · refine fM_bl g1 (fun K fK gK => ?_)
        refine s_M_work_40 ?_
        unfold t_M_work_40
        refine bq_f (fM_ne gK) (h0 k q ?_ K (ft.trans (Nat.le_refl _) f1 (ft_m fK)) gK)
        rcases e1 with e1 | ⟨σ', p1, e1, e2⟩
        · exact bndR_l e1
        · rw [bndR_r e1]; exact bndR_l e2
def st0 : ST := (0, fun _ => (0, 0, 0, 0))
theorem qn_plan {X : Nat × (Nat → Int32)} (hF : F ≤ 8) (hN : N ≤ 150) (t : tM I N w (bl N w 0)) (h28 : I 46 28 = 0) (h50 : I 50 0 = nI F) (h8 : I 46 8 = 0) (h1 : ∀ σ p', lstD N w F 7 0 st0 = .inr (σ, p') → ∀ K, ft 0 I K → tM K N w p' → K 46 28 = nI σ.1 → (∀ k, k < σ.1 → eM K k (σ.2 k)) → t_M_work_53 (16, X) K T Q) (h0 : ∀ k q, lstD N w F 7 0 st0 = .inl (k, q) → ∀ K, ft 0 I K → fM K N w k q → t_M_work_53 (16, X) K T Q) : t_M_work_40 (16, X) I T Q := by
  have e1 : lstD N w F 7 0 st0 = lstR N w 0 (stpR N w F (lstD N w F 6) (decide (0 < 6))) 31 0 st0 := by rw [lstD]
  rw [e1] at h1 h0
  exact lm_top (w := w) hN (m_stpD hF hN 6 0 16 (by omega) (by omega)) (gT_stp (fun _ => gS_lstD 6)) 31 0 0 st0 I (by omega) (Nat.le_refl _) (by omega) t (by show 5 * 0 ≤ 0; omega) h28 h50 h8 (fun σ' p' e K f tK nK cK => h1 σ' p' e K f tK nK (fun k hk => cK k (Nat.zero_le _) hk)) (fun k q e K f g => h0 k q e K f g)
end WORKM2
/-- steps from i to j, at most n levels of 'again' -/
def okE (F : Nat) (e : SE) : Prop := e.1 ≤ 6 ∧ (e.1 ≤ 2 → e.2.1 < F) ∧ (e.1 = 0 → e.2.2.1 < 4) ∧ (e.1 = 2 → e.2.2.1 < 10) ∧ (e.1 = 6 → e.2.1 ≤ 60)
def wl (F : Nat) (st : Nat → SE) (inn : Nat → Nat → Prop) : Nat → Nat → Nat → Prop
  | 0, i, j => i = j
  | t + 1, i, j => i = j ∨ (i < j ∧ okE F (st i) ∧ i < (st i).2.2.2 ∧ (st i).2.2.2 ≤ j ∧ ((st i).1 = 6 → inn (i + 1) (st i).2.2.2) ∧ wl F st inn t (st i).2.2.2 j)
def wn (F : Nat) (st : Nat → SE) : Nat → Nat → Nat → Prop
  | 0, _, _ => False
  | n + 1, i, j => wl F st (wn F st n) 31 i j
