/-! ===== steady: the case ===== -/
section STEADYO
variable {E : MEnv} {I : II} {Q : QQ}
theorem l_51 {n k q part : Nat} {T0 : TT} (hn : n ≤ 12) (hq : ∀ T' : TT, T'.2 = T0.2 → (∀ c, c ≠ 535 → T'.1 c = T0.1 c) → (∀ j, j < 14 → T'.1 535 j = (rwL q n).getD j 0) → t_M_steady_99 E I T' Q (nI part) 0 (totM n) (nI k)) : ∀ (d s : Nat) (T : TT), s + d = n → T.2 = T0.2 → (∀ c, c ≠ 535 → T.1 c = T0.1 c) → (∀ j, j < 14 → T.1 535 j = (rwL q s).getD j 0) → t_M_steady_51 E I T Q (nI n) (nI k) (nI q) (nI part) (nI s)
  | 0, s, T, hs, h2, hc, hr => by
    have e : s = n := by omega
    subst e
    unfold t_M_steady_51
    exact bq_t (nI_le (Nat.le_refl _) (by omega)) (hq T h2 hc hr)
  | d + 1, s, T, hs, h2, hc, hr => by
    unfold t_M_steady_51
    refine bq_f (nI_ge (by omega) (by omega)) ?_
    refine l_56 (T0 := T0) (rwL_len q s) 13 T (by omega) h2 hc (fun j hj => by rw [if_pos (by omega)]; exact hr j hj) (fun T' a b c => ?_)
    exact l_51 hn hq d (s + 1) T' (by omega) a b c
theorem rw0 (q : Nat) : ∀ j, j < 14 → (rwL q 0).getD j 0 = if j = 0 then 1 else 0 := by
  intro j hj
  have : ∀ j : Fin 14, (1 :: List.replicate 13 (0 : Int64)).getD j.val 0 = if j.val = 0 then 1 else 0 := by decide
  exact this ⟨j, hj⟩
theorem l_35 {n k q part : Nat} {T0 : TT} (hq : ∀ T' : TT, T'.2 = T0.2 → (∀ c, c ≠ 535 → T'.1 c = T0.1 c) → (∀ j, j < 14 → T'.1 535 j = (rwL q 0).getD j 0) → t_M_steady_51 E I T' Q (nI n) (nI k) (nI q) (nI part) (nI 0)) : ∀ (d j : Nat) (T : TT), j + d = 14 → T.2 = T0.2 → (∀ c, c ≠ 535 → T.1 c = T0.1 c) → (∀ i, i < j → T.1 535 i = (rwL q 0).getD i 0) → t_M_steady_35 E I T Q (nI n) (nI k) (nI q) (nI part) (nI j)
  | 0, j, T, hj, h2, hc, hr => by
    have e : j = 14 := by omega
    subst e
    unfold t_M_steady_35
    exact bq_t (by decide) (hq T h2 hc hr)
  | d + 1, j, T, hj, h2, hc, hr => by
    have go : ∀ y, y = (rwL q 0).getD j 0 → t_M_steady_46 E I T Q (nI n) (nI k) (nI q) (nI part) (nI j) (nI j) y := fun y hy => by
      unfold t_M_steady_46
      rw [nI_clamp (by omega), nI_1]
      refine ⟨⟨nI_pos (by omega), by omega⟩, s_M_steady_35 (l_35 hq d (j + 1) _ (by omega) h2 (fun c h => ?_) (fun i hi => ?_))⟩
      · show (m_up T.1 535 _ _) c = _
        rw [m_up_ne h]; exact hc c h
      · show (m_up T.1 535 j y) 535 i = _
        rw [m_up_at]
        by_cases e : i = j
        · rw [if_pos e, e, hy]
        · rw [if_neg e]; exact hr i (by omega)
    unfold t_M_steady_35
    refine bq_f (nI_ge (a := j) (b := 14) (by omega) (by omega)) ?_
    by_cases c : j = 0
    · exact bq_t (by rw [c]; rfl) (go 1 (by rw [rw0 q j (by omega), if_pos c]))
    · exact bq_f (fun y => c ((nI_eq (a := j) (b := 0) (by omega) (by omega)).mp y)) (go 0 (by rw [rw0 q j (by omega), if_neg c]))
theorem fin_L {T : TT} {C D : II → TT → Prop} {v1 : Int32} {v2 : Int64} (h1 : I 46 0 = v1) (h2 : v1 = 0 → T.1 536 0 = v2) (hC : C I T) : ev E 76 0 [some (.ref 46)] [] I T (KI (fun v3 I3 T3 => (v3 = v1 → ((v1 = 0 → (((lg_cmp (T3.1 536 0) v2) = 0 → (C I3 T3)) ∧ (¬ ((lg_cmp (T3.1 536 0) v2) = 0) → (D I3 T3)))) ∧ (¬ (v1 = 0) → (C I3 T3)))) ∧ (¬ (v3 = v1) → (D I3 T3))) (fun _ _ _ => False)) := by
  refine s_M_thrown_0 ?_
  refine bq_t h1 ?_
  refine ⟨fun q => bq_t ((lg_cmp_eq _ _).mpr (h2 q)) hC, fun _ => hC⟩
def okS (a b c d : Int32) : Prop := okW a 0 12 ∧ okW b 0 13 ∧ okW c 0 16 ∧ okW d 0 1
theorem xq_steady_b {T : TT} (hT : TG T) {a b c d : Int32} (h : ¬ okS a b c d) (hq : Q (.inr 1) (m_up I 0 15 (I 0 15 + 1)) (TX T)) : ev E 270 0 [some (.ref 0), some (.int a), some (.int b), some (.int c), some (.int d), none, none, none, none, none, none] [] I T Q := by
  refine s_X_steady_0 ?_
  unfold t_X_steady_0 t_X_steady_23 t_X_steady_24
  have fin : ev E 28 0 [some (.ref 0), some (.int 0)] [] I T (KV (fun I1 T1 => t_X_steady_29 E I1 T1 Q a c d 0 b) (fun x I1 T1 => Q (.inr x) I1 T1)) := q_need hT _ (fun q => absurd rfl q) (fun _ => hq)
  refine q_within _ _ _ ?_
  by_cases c1 : okW a 0 12
  · rw [wI_t c1]
    refine bq_f (by decide) ?_
    refine q_within _ _ _ ?_
    by_cases c2 : okW b 0 13
    · rw [wI_t c2]
      refine bq_f (by decide) ?_
      refine q_within _ _ _ ?_
      by_cases c3 : okW c 0 16
      · rw [wI_t c3]
        refine bq_f (by decide) ?_
        refine q_within _ _ _ ?_
        rw [wI_f (fun c4 => h ⟨c1, c2, c3, c4⟩)]
        exact bq_t rfl fin
      · rw [wI_f c3]; exact bq_t rfl fin
    · rw [wI_f c2]; exact bq_t rfl fin
  · rw [wI_f c1]; exact bq_t rfl fin
theorem mq_steady_b {T : TT} {a b c d : Int32} (h : ¬ okS a b c d) (hq : ∀ v J, ro (m_up I 48 1 (I 48 1 + 1)) J → J 46 0 = 1 → Q (.inl (some (.long v))) J T) : ev E 274 0 [some (.ref 46), some (.int a), some (.int b), some (.int c), some (.int d), none, none, none, none, none, none, none, none, none, none] [] I T Q := by
  refine s_M_steady_0 ?_
  unfold t_M_steady_0
  have fin : t_M_steady_24 E (m_up I 46 0 0) T Q a b c d := by
    unfold t_M_steady_24 t_M_steady_27
    refine qm_bad1 (j := 1) rfl (by decide) (by decide) ?_
    exact bq_f (by decide) (hq _ _ (ro_bad I _ _) rfl)
  refine q_in _ _ _ ?_
  by_cases c1 : okW a 0 12
  · rw [wI_t c1]
    refine bq_f (by decide) ?_
    refine q_in _ _ _ ?_
    by_cases c2 : okW b 0 13
    · rw [wI_t c2]
      refine bq_f (by decide) ?_
      refine q_in _ _ _ ?_
      by_cases c3 : okW c 0 16
      · rw [wI_t c3]
        refine bq_f (by decide) ?_
        refine q_in _ _ _ ?_
        rw [wI_f (fun c4 => h ⟨c1, c2, c3, c4⟩)]
        exact bq_t rfl fin
      · rw [wI_f c3]; exact bq_t rfl fin
    · rw [wI_f c2]; exact bq_t rfl fin
  · rw [wI_f c1]; exact bq_t rfl fin
theorem mq_steady {T : TT} {n k q part : Nat} (hn : n ≤ 12) (hk : k ≤ 13) (hq16 : q ≤ 16) (hp : part ≤ 1) {v : Int64} (hg : gM 200 (totM n) (skL (rwL q n) k) = some v) (hv : v ≠ 0) (hq : ∀ T' : TT, T'.2 = T.2 → (∀ c, c ≠ 535 → T'.1 c = T.1 c) → Q (.inl (some (.long (stV part (skL (rwL q n) k) (totM n) v)))) (m_up I 46 0 0) T') : ev E 274 0 [some (.ref 46), some (.int (nI n)), some (.int (nI k)), some (.int (nI q)), some (.int (nI part)), none, none, none, none, none, none, none, none, none, none] [] I T Q := by
  refine s_M_steady_0 ?_
  unfold t_M_steady_0
  refine q_in _ _ _ ?_
  rw [show wI (nI n) 0 12 = 1 from wI_n (b := 12) hn (by decide)]
  refine bq_f (by decide) ?_
  refine q_in _ _ _ ?_
  rw [show wI (nI k) 0 13 = 1 from wI_n (b := 13) hk (by decide)]
  refine bq_f (by decide) ?_
  refine q_in _ _ _ ?_
  rw [show wI (nI q) 0 16 = 1 from wI_n (b := 16) hq16 (by decide)]
  refine bq_f (by decide) ?_
  refine q_in _ _ _ ?_
  rw [show wI (nI part) 0 1 = 1 from wI_n (b := 1) hp (by decide)]
  refine bq_f (by decide) ?_
  unfold t_M_steady_27
  refine qm_bad0 rfl _ _ (bq_t rfl ?_)
  refine l_35 (T0 := T) (fun T1 a b c => ?_) 14 0 T (by omega) rfl (fun _ _ => rfl) (fun i hi => absurd hi (by omega))
  refine l_51 (T0 := T) hn (fun T2 a2 b2 c2 => ?_) n 0 T1 (by omega) a b c
  refine l_99 (rwL_len q n) c2 (14 - k) k 0 (by omega) ?_
  exact l_115 hp hv (hq T2 a2 b2) 200 _ _ hg
theorem o_steady : op_ok Inv E t_W_main_887 := by
  intro I T Q i m hI hT hm hi hL hn
  have hG := TI_g hT hm
  obtain ⟨F, S, n, cd, hA⟩ := hI
  unfold t_W_main_887
  generalize E.2.2 (nI i + 1).toNatClampNeg = a1
  generalize E.2.2 (nI i + 2).toNatClampNeg = a2
  generalize E.2.2 (nI i + 3).toNatClampNeg = a3
  generalize E.2.2 (nI i + 4).toNatClampNeg = a4
  refine ⟨gsc 1 hi hL (by decide), gsc 2 hi hL (by decide), gsc 3 hi hL (by decide), gsc 4 hi hL (by decide), ?_⟩
  refine s_W_steady_0 ?_
  unfold t_W_steady_0 t_W_steady_11
  by_cases c : okS a1 a2 a3 a4
  · obtain ⟨c1, c2, c3, c4⟩ := c
    obtain ⟨x, hx, rfl⟩ := okW_nat (k := 12) (by decide) c1
    obtain ⟨k, hk, rfl⟩ := okW_nat (k := 13) (by decide) c2
    obtain ⟨q, hq, rfl⟩ := okW_nat (k := 16) (by decide) c3
    obtain ⟨p, hp, rfl⟩ := okW_nat (k := 1) (by decide) c4
    have ch := List.all_eq_true.mp (ch_all hx hq) k (List.mem_range.mpr (by omega))
    unfold chS at ch
    simp only [Bool.and_eq_true, decide_eq_true_eq] at ch
    obtain ⟨⟨e1, e2⟩, e3⟩ := ch
    have et : totM x = pw 16 x 1 := tot_eq ⟨x, by omega⟩
    have hz : cv2 200 (smX x q (x + 1 - k) k 0) (pw 16 x 1) ≠ 0 := by rw [← e1, ← et]; exact e3
    refine xq_steady hG hx hk hq hp hz ?_
    refine ⟨gsc 1 hi hL (by decide), gsc 2 hi hL (by decide), gsc 3 hi hL (by decide), gsc 4 hi hL (by decide), ?_⟩
    refine mq_steady hx hk hq hp e2 e3 (fun T' h2 hc => ?_)
    refine fin_L rfl (fun _ => ?_) (hn _ T' ⟨F, S, n, cd, hA.ro (ro_thrown I 0)⟩ ?_)
    · rw [hc 536 (by decide)]
      show stV p (smX x q (x + 1 - k) k 0) (pw 16 x 1) (cv2 200 (smX x q (x + 1 - k) k 0) (pw 16 x 1)) = _
      rw [← e1, ← et]
    · have := TI_s hT
      unfold TI at this ⊢
      rw [h2]
      exact this
  · refine xq_steady_b hG c ?_
    refine ⟨rfl, gsc 1 hi hL (by decide), gsc 2 hi hL (by decide), gsc 3 hi hL (by decide), gsc 4 hi hL (by decide), ?_⟩
    exact mq_steady_b c (fun v J hJ h0 => fin_L h0 (fun q => absurd q (by decide)) (hn J _ (Inv_thr (x := 1) (by decide) ⟨F, S, n, cd, hA⟩ rfl (ro.refl _) hJ) (TI_x hT)))
end STEADYO
