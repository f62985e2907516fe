/-! ===== askings: stage, at, force, comes, needs, pairs, open, length, willing, clashes, weariest, loosest ===== -/
section OPB
variable {E : MEnv} {B I : II} {T : TT} {Q : QQ} {F S n : Nat} {cd : Nat → Nat × Int32}
def stageV (B : II) (s j : Nat) : Int32 := [B 7 s, B 8 s].getD j (if B 29 25 ≤ nI s then 0 else 1)
theorem xq_stage (hA : InvA B F S n cd) (hT : TG T) {s : Nat} (hs : s < S) {j : Nat} (hj : j ≤ 2) (hq : ∀ J, ro B J → Q (.inl (some (.int (stageV B s j)))) J T) : ev E 192 0 [some (.ref 0), some (.int (nI s)), some (.int (nI j))] [] B T Q := by
  have hC := hA.1
  have h8 := hC.F8
  have h6 := hC.S6
  refine s_X_stage_0 ?_
  unfold t_X_stage_0
  refine q_needS hA.1.1 hT _ (fun _ => ?_) (fun q => absurd ⟨s, hs, rfl⟩ q)
  refine q_within _ _ _ ?_
  rw [show wI (nI j) 0 2 = 1 from wI_n (b := 2) hj (by decide)]
  refine q_need hT _ (fun _ => ?_) (fun q => absurd q (by decide))
  match j, hj with
  | 0, _ => exact ev_fg [true, true, false] rfl (s_X_stage_11 (q_len hC (ro.refl B) hs (hq B (ro.refl B))))
  | 1, _ => exact ev_fg [true, true, false] rfl (s_X_stage_16 (q_turn hC (ro.refl B) hs (hq B (ro.refl B))))
  | 2, _ =>
    refine ev_fg [true, true, false] rfl (s_X_stage_21 (q_behind (ro.refl B) ?_))
    have z : Q (.inl (some (.int (if B 29 25 ≤ nI s then 0 else 1)))) B T := hq B (ro.refl B)
    refine ⟨fun q => ?_, fun q => ?_⟩
    · rw [if_pos q] at z; exact z
    · rw [if_neg q] at z; exact z
theorem mq_stage (hC : Core B F S n cd) (h : ro B I) {s : Nat} (hs : s < S) {j : Nat} (hj : j ≤ 2) (hq : ∀ J, ro B J → J 46 0 = 0 → Q (.inl (some (.int (stageV B s j)))) J T) : ev E 194 0 [some (.ref 46), some (.int (nI s)), some (.int (nI j))] [] I T Q := by
  have h8 := hC.F8
  have h6 := hC.S6
  have hI : ro B (m_up I 46 0 0) := h.trans (ro_thrown I 0)
  have h0 : (m_up I 46 0 0) 46 0 = 0 := rfl
  refine s_M_stage_0 ?_
  unfold t_M_stage_0 t_M_stage_11 t_M_stage_24 t_M_stage_28 t_M_stage_49
  refine qm_isStage (hC.2.1.ro hI) _ ?_
  rw [wI_t ((okW_lt (by have := (hC.2.1.ro hI).2.2.2; omega)).mpr ⟨s, hs, rfl⟩)]
  refine bq_f (by decide) ?_
  refine qm_bad0 rfl _ _ ?_
  refine bq_t rfl ?_
  refine q_in _ _ _ ?_
  rw [show wI (nI j) 0 2 = 1 from wI_n (b := 2) hj (by decide)]
  refine bq_f (by decide) ?_
  refine qm_bad0 rfl _ _ ?_
  refine bq_t rfl ?_
  have e508 : (m_up I 46 0 0) 508 = B 508 := hI.cell (c := 508) (by decide)
  have e77 : (m_up I 46 0 0) (77 + s) = B (77 + s) := hI.cell (scr_rng (a := 77) (b := 83) (by omega) (by omega) (by decide))
  obtain ⟨t1, t2, -⟩ := hC.st hs
  have z := hq _ hI h0
  have gf : ¬ nI s < 0 ∧ s < 6 := ⟨nI_pos (by omega), by omega⟩
  rw [nI_clamp (show s < 2 ^ 31 by omega)]
  match j, hj with
  | 0, _ => exact bq_f (by decide) ⟨gf, ⟨by decide, by decide⟩, by rw [e77]; show Q (.inl (some (.int (B (77 + s) 0)))) _ T; rw [t1]; exact z⟩
  | 1, _ => exact bq_f (by decide) ⟨gf, ⟨by decide, by decide⟩, by rw [e77]; show Q (.inl (some (.int (B (77 + s) 1)))) _ T; rw [t2]; exact z⟩
  | 2, _ =>
    refine bq_t (by decide) ?_
    rw [e508, hC.q (by omega)]
    have z : Q (.inl (some (.int (if B 29 25 ≤ nI s then 0 else 1)))) _ T := z
    refine ⟨fun q => ?_, fun q => ?_⟩
    · rw [if_pos q] at z; exact z
    · rw [if_neg q] at z; exact z
theorem xq_stage_b0 (hA : InvA B F S n cd) (hT : TG T) {a1 : Int32} {a2 : Int32} (c : ¬ ∃ f, f < S ∧ a1 = nI f) (hq : Q (.inr 0) (m_up B 0 14 (B 0 14 + 1)) (TX T)) : ev E 192 0 [some (.ref 0), some (.int (a1)), some (.int (a2))] [] B T Q := by
  refine s_X_stage_0 ?_
  unfold t_X_stage_0
  exact q_needS hA.1.1 hT _ (fun q => absurd q c) (fun _ => hq)
theorem mq_stage_b0 (hm : mN I F S) {a1 : Int32} {a2 : Int32} (c : ¬ ∃ f, f < S ∧ a1 = nI f) (hq : ∀ v J, ro (m_up I 48 0 (I 48 0 + 1)) J → J 46 0 = 1 → Q (.inl (some (.int v))) J T) : ev E 194 0 [some (.ref 46), some (.int (a1)), some (.int (a2))] [] I T Q := by
  have hm2 : mN (m_up I 46 0 0) F S := hm
  refine s_M_stage_0 ?_
  unfold t_M_stage_0 t_M_stage_11 t_M_stage_24 t_M_stage_28 t_M_stage_49
  refine qm_isStage hm2 _ ?_
  rw [wI_f (fun q => c ((okW_lt (by have := hm.2.2.2; omega)).mp q))]
  refine bq_t rfl ?_
  refine qm_bad1 (j := 0) rfl (by decide) (by decide) ?_
  refine bq_f (by decide) ?_
  exact hq _ _ (ro_bad I _ _) rfl
theorem xq_stage_b1 (hA : InvA B F S n cd) (hT : TG T) {s : Nat} (hs : s < S) {a2 : Int32} (c : ¬ okW a2 0 2) (hq : Q (.inr 1) (m_up B 0 15 (B 0 15 + 1)) (TX T)) : ev E 192 0 [some (.ref 0), some (.int (nI s)), some (.int (a2))] [] B T Q := by
  refine s_X_stage_0 ?_
  unfold t_X_stage_0
  refine q_needS hA.1.1 hT _ (fun _ => ?_) (fun q => absurd ⟨s, hs, rfl⟩ q)
  refine q_within _ _ _ ?_
  rw [wI_f c]
  exact q_need hT _ (fun q => absurd rfl q) (fun _ => hq)
theorem mq_stage_b1 (hm : mN I F S) {s : Nat} (hs : s < S) {a2 : Int32} (c : ¬ okW a2 0 2) (hq : ∀ v J, ro (m_up I 48 1 (I 48 1 + 1)) J → J 46 0 = 2 → Q (.inl (some (.int v))) J T) : ev E 194 0 [some (.ref 46), some (.int (nI s)), some (.int (a2))] [] I T Q := by
  have hm2 : mN (m_up I 46 0 0) F S := hm
  refine s_M_stage_0 ?_
  unfold t_M_stage_0 t_M_stage_11 t_M_stage_24 t_M_stage_28 t_M_stage_49
  refine qm_isStage (hm2) _ ?_
  rw [wI_t ((okW_lt (by have := (hm2).2.2.2; omega)).mpr ⟨s, hs, rfl⟩)]
  refine bq_f (by decide) ?_
  refine qm_bad0 rfl _ _ ?_
  refine bq_t rfl ?_
  refine q_in _ _ _ ?_
  rw [wI_f c]
  refine bq_t rfl ?_
  refine qm_bad1 (j := 1) rfl (by decide) (by decide) ?_
  refine bq_f (by decide) ?_
  exact hq _ _ (ro_bad I _ _) rfl

theorem o_stage : op_ok Inv E t_W_main_316 := by
  intro I T Q i m hI hT hm hi hL hn
  have hG := TI_g hT hm
  obtain ⟨F, S, n, cd, hA⟩ := hI
  unfold t_W_main_316
  generalize E.2.2 (nI i + 1).toNatClampNeg = a1
  generalize E.2.2 (nI i + 2).toNatClampNeg = a2
  refine ⟨gsc 1 hi hL (by decide), gsc 2 hi hL (by decide), ?_⟩
  refine s_W_stage_0 ?_
  unfold t_W_stage_0 t_W_stage_13 t_W_stage_10
  by_cases c0 : ∃ f, f < S ∧ a1 = nI f
  · obtain ⟨s, hs, rfl⟩ := c0
    by_cases c1 : okW a2 0 2
    · obtain ⟨j, hj, rfl⟩ := okW_nat (k := 2) (by decide) c1
      refine xq_stage hA hG hs hj (fun J hJ => ?_)
      exact ⟨gsc 1 hi hL (by decide), gsc 2 hi hL (by decide), mq_stage hA.1 hJ hs hj (fun K hK h0 => fin_ok h0 (fun _ => rfl) (hn K _ ⟨F, S, n, cd, hA.ro hK⟩ (TI_s hT)))⟩
    · refine xq_stage_b1 hA hG hs c1 ?_
      refine Or.inr ⟨rfl, ?_⟩
      exact ⟨gsc 1 hi hL (by decide), gsc 2 hi hL (by decide), mq_stage_b1 (F := F) (S := S) (show mN (m_up I 0 15 (I 0 15 + 1)) F S from hA.1.2.1) hs c1 (fun v J hJ h0 => fin_ok h0 (fun q => absurd q (by decide)) (hn J _ (Inv_thr (x := 1) (by decide) ⟨F, S, n, cd, hA⟩ rfl (ro.refl _) hJ) (TI_x hT)))⟩
  · refine xq_stage_b0 hA hG  c0 ?_
    refine Or.inl ⟨rfl, ?_⟩
    exact ⟨gsc 1 hi hL (by decide), gsc 2 hi hL (by decide), mq_stage_b0 (F := F) (S := S) (show mN (m_up I 0 14 (I 0 14 + 1)) F S from hA.1.2.1)  c0 (fun v J hJ h0 => fin_ok h0 (fun q => absurd q (by decide)) (hn J _ (Inv_thr (x := 0) (by decide) ⟨F, S, n, cd, hA⟩ rfl (ro.refl _) hJ) (TI_x hT)))⟩
theorem xq_at (hA : InvA B F S n cd) (hT : TG T) {p : Nat} (hp : p ≤ 3) (hq : ∀ J, ro B J → Q (.inl (some (.int (whoAt (B 29) (nI p) F 0)))) J T) : ev E 197 0 [some (.ref 0), some (.int (nI p))] [] B T Q := by
  have hC := hA.1
  have h8 := hC.F8
  have h6 := hC.S6
  refine s_X_at_0 ?_
  unfold t_X_at_0
  refine q_isPlace _ ?_
  rw [show wI (nI p) 0 3 = 1 from wI_n (b := 3) hp (by decide)]
  refine q_need hT _ (fun _ => ?_) (fun q => absurd q (by decide))
  exact q_who hC (ro.refl B) _ (hq B (ro.refl B))
theorem mq_at (hC : Core B F S n cd) (h : ro B I) {p : Nat} (hp : p ≤ 3) (hq : ∀ J, ro B J → J 46 0 = 0 → Q (.inl (some (.int (whoAt (B 29) (nI p) F 0)))) J T) : ev E 199 0 [some (.ref 46), some (.int (nI p))] [] I T Q := by
  have h8 := hC.F8
  have h6 := hC.S6
  have hI : ro B (m_up I 46 0 0) := h.trans (ro_thrown I 0)
  have h0 : (m_up I 46 0 0) 46 0 = 0 := rfl
  refine s_M_at_0 ?_
  unfold t_M_at_0 t_M_at_10
  refine qm_isPlace _ ?_
  rw [show wI (nI p) 0 3 = 1 from wI_n (b := 3) hp (by decide)]
  refine bq_f (by decide) ?_
  refine qm_bad0 rfl _ _ ?_
  refine bq_t rfl ?_
  exact qm_who hC hI _ (hq _ hI h0)
theorem xq_at_b0 (hA : InvA B F S n cd) (hT : TG T) {a1 : Int32} (c : ¬ okW a1 0 3) (hq : Q (.inr 1) (m_up B 0 15 (B 0 15 + 1)) (TX T)) : ev E 197 0 [some (.ref 0), some (.int (a1))] [] B T Q := by
  refine s_X_at_0 ?_
  unfold t_X_at_0
  refine q_isPlace _ ?_
  rw [wI_f c]
  exact q_need hT _ (fun q => absurd rfl q) (fun _ => hq)
theorem mq_at_b0 (hm : mN I F S) {a1 : Int32} (c : ¬ okW a1 0 3) (hq : ∀ v J, ro (m_up I 48 1 (I 48 1 + 1)) J → J 46 0 = 1 → Q (.inl (some (.int v))) J T) : ev E 199 0 [some (.ref 46), some (.int (a1))] [] I T Q := by
  have hm2 : mN (m_up I 46 0 0) F S := hm
  refine s_M_at_0 ?_
  unfold t_M_at_0 t_M_at_10
  refine qm_isPlace _ ?_
  rw [wI_f c]
  refine bq_t rfl ?_
  refine qm_bad1 (j := 1) rfl (by decide) (by decide) ?_
  refine bq_f (by decide) ?_
  exact hq _ _ (ro_bad I _ _) rfl

theorem o_at : op_ok Inv E t_W_main_361 := by
  intro I T Q i m hI hT hm hi hL hn
  have hG := TI_g hT hm
  obtain ⟨F, S, n, cd, hA⟩ := hI
  unfold t_W_main_361
  generalize E.2.2 (nI i + 1).toNatClampNeg = a1
  refine ⟨gsc 1 hi hL (by decide), ?_⟩
  refine s_W_at_0 ?_
  unfold t_W_at_0 t_W_at_9
  by_cases c0 : okW a1 0 3
  · obtain ⟨p, hp, rfl⟩ := okW_nat (k := 3) (by decide) c0
    refine xq_at hA hG hp (fun J hJ => ?_)
    exact ⟨gsc 1 hi hL (by decide), mq_at hA.1 hJ hp (fun K hK h0 => fin_ok h0 (fun _ => rfl) (hn K _ ⟨F, S, n, cd, hA.ro hK⟩ (TI_s hT)))⟩
  · refine xq_at_b0 hA hG  c0 ?_
    refine ⟨rfl, ?_⟩
    exact ⟨gsc 1 hi hL (by decide), mq_at_b0 (F := F) (S := S) (show mN (m_up I 0 15 (I 0 15 + 1)) F S from hA.1.2.1)  c0 (fun v J hJ h0 => fin_ok h0 (fun q => absurd q (by decide)) (hn J _ (Inv_thr (x := 1) (by decide) ⟨F, S, n, cd, hA⟩ rfl (ro.refl _) hJ) (TI_x hT)))⟩
theorem xq_force (hA : InvA B F S n cd) (hT : TG T) {f : Nat} (hf : f < F) {p : Nat} (hp : p ≤ 3) (hq : ∀ J, ro B J → Q (.inl (some (.int (frA B n cd f (nI p) (ones (bits (B 29) F)))))) J T) : ev E 202 0 [some (.ref 0), some (.int (nI f)), some (.int (nI p))] [] B T Q := by
  have hC := hA.1
  have h8 := hC.F8
  have h6 := hC.S6
  refine s_X_force_0 ?_
  unfold t_X_force_0
  refine q_needF hA.1.1 hT _ (fun _ => ?_) (fun q => absurd ⟨f, hf, rfl⟩ q)
  refine q_isPlace _ ?_
  rw [show wI (nI p) 0 3 = 1 from wI_n (b := 3) hp (by decide)]
  refine q_need hT _ (fun _ => ?_) (fun q => absurd q (by decide))
  refine q_size hC (ro.refl B) ?_
  exact q_force hC (ro.refl B) hf _ _ (fun J hJ => hq J hJ)
theorem mq_force (hC : Core B F S n cd) (h : ro B I) {f : Nat} (hf : f < F) {p : Nat} (hp : p ≤ 3) (hq : ∀ J, ro B J → J 46 0 = 0 → Q (.inl (some (.int (frA B n cd f (nI p) (ones (bits (B 29) F)))))) J T) : ev E 203 0 [some (.ref 46), some (.int (nI f)), some (.int (nI p))] [] I T Q := by
  have h8 := hC.F8
  have h6 := hC.S6
  have hI : ro B (m_up I 46 0 0) := h.trans (ro_thrown I 0)
  have h0 : (m_up I 46 0 0) 46 0 = 0 := rfl
  refine s_M_force_0 ?_
  unfold t_M_force_0 t_M_force_11 t_M_force_22 t_M_force_26
  refine qm_isFeeling (hC.2.1.ro hI) _ ?_
  rw [wI_t ((okW_lt (hC.2.1.ro hI).2.1).mpr ⟨f, hf, rfl⟩)]
  refine bq_f (by decide) ?_
  refine qm_bad0 rfl _ _ ?_
  refine bq_t rfl ?_
  refine qm_isPlace _ ?_
  rw [show wI (nI p) 0 3 = 1 from wI_n (b := 3) hp (by decide)]
  refine bq_f (by decide) ?_
  refine qm_bad0 rfl _ _ ?_
  refine bq_t rfl ?_
  refine qm_bits hC hI ?_
  refine p_ones _ ?_
  exact qm_force' hC hI h0 hf _ _ (fun J hJ h9 => hq J hJ h9)
theorem xq_force_b0 (hA : InvA B F S n cd) (hT : TG T) {a1 : Int32} {a2 : Int32} (c : ¬ ∃ f, f < F ∧ a1 = nI f) (hq : Q (.inr 0) (m_up B 0 14 (B 0 14 + 1)) (TX T)) : ev E 202 0 [some (.ref 0), some (.int (a1)), some (.int (a2))] [] B T Q := by
  refine s_X_force_0 ?_
  unfold t_X_force_0
  exact q_needF hA.1.1 hT _ (fun q => absurd q c) (fun _ => hq)
theorem mq_force_b0 (hm : mN I F S) {a1 : Int32} {a2 : Int32} (c : ¬ ∃ f, f < F ∧ a1 = nI f) (hq : ∀ v J, ro (m_up I 48 0 (I 48 0 + 1)) J → J 46 0 = 1 → Q (.inl (some (.int v))) J T) : ev E 203 0 [some (.ref 46), some (.int (a1)), some (.int (a2))] [] I T Q := by
  have hm2 : mN (m_up I 46 0 0) F S := hm
  refine s_M_force_0 ?_
  unfold t_M_force_0 t_M_force_11 t_M_force_22 t_M_force_26
  refine qm_isFeeling hm2 _ ?_
  rw [wI_f (fun q => c ((okW_lt hm.2.1).mp q))]
  refine bq_t rfl ?_
  refine qm_bad1 (j := 0) rfl (by decide) (by decide) ?_
  refine bq_f (by decide) ?_
  exact hq _ _ (ro_bad I _ _) rfl
theorem xq_force_b1 (hA : InvA B F S n cd) (hT : TG T) {f : Nat} (hf : f < F) {a2 : Int32} (c : ¬ okW a2 0 3) (hq : Q (.inr 1) (m_up B 0 15 (B 0 15 + 1)) (TX T)) : ev E 202 0 [some (.ref 0), some (.int (nI f)), some (.int (a2))] [] B T Q := by
  refine s_X_force_0 ?_
  unfold t_X_force_0
  refine q_needF hA.1.1 hT _ (fun _ => ?_) (fun q => absurd ⟨f, hf, rfl⟩ q)
  refine q_isPlace _ ?_
  rw [wI_f c]
  exact q_need hT _ (fun q => absurd rfl q) (fun _ => hq)
theorem mq_force_b1 (hm : mN I F S) {f : Nat} (hf : f < F) {a2 : Int32} (c : ¬ okW a2 0 3) (hq : ∀ v J, ro (m_up I 48 1 (I 48 1 + 1)) J → J 46 0 = 2 → Q (.inl (some (.int v))) J T) : ev E 203 0 [some (.ref 46), some (.int (nI f)), some (.int (a2))] [] I T Q := by
  have hm2 : mN (m_up I 46 0 0) F S := hm
  refine s_M_force_0 ?_
  unfold t_M_force_0 t_M_force_11 t_M_force_22 t_M_force_26
  refine qm_isFeeling (hm2) _ ?_
  rw [wI_t ((okW_lt (hm2).2.1).mpr ⟨f, hf, rfl⟩)]
  refine bq_f (by decide) ?_
  refine qm_bad0 rfl _ _ ?_
  refine bq_t rfl ?_
  refine qm_isPlace _ ?_
  rw [wI_f c]
  refine bq_t rfl ?_
  refine qm_bad1 (j := 1) rfl (by decide) (by decide) ?_
  refine bq_f (by decide) ?_
  exact hq _ _ (ro_bad I _ _) rfl

theorem o_force : op_ok Inv E t_W_main_396 := by
  intro I T Q i m hI hT hm hi hL hn
  have hG := TI_g hT hm
  obtain ⟨F, S, n, cd, hA⟩ := hI
  unfold t_W_main_396
  generalize E.2.2 (nI i + 1).toNatClampNeg = a1
  generalize E.2.2 (nI i + 2).toNatClampNeg = a2
  refine ⟨gsc 1 hi hL (by decide), gsc 2 hi hL (by decide), ?_⟩
  refine s_W_force_0 ?_
  unfold t_W_force_0 t_W_force_13 t_W_force_10
  by_cases c0 : ∃ f, f < F ∧ a1 = nI f
  · obtain ⟨f, hf, rfl⟩ := c0
    by_cases c1 : okW a2 0 3
    · obtain ⟨p, hp, rfl⟩ := okW_nat (k := 3) (by decide) c1
      refine xq_force hA hG hf hp (fun J hJ => ?_)
      exact ⟨gsc 1 hi hL (by decide), gsc 2 hi hL (by decide), mq_force hA.1 hJ hf hp (fun K hK h0 => fin_ok h0 (fun _ => rfl) (hn K _ ⟨F, S, n, cd, hA.ro hK⟩ (TI_s hT)))⟩
    · refine xq_force_b1 hA hG hf c1 ?_
      refine Or.inr ⟨rfl, ?_⟩
      exact ⟨gsc 1 hi hL (by decide), gsc 2 hi hL (by decide), mq_force_b1 (F := F) (S := S) (show mN (m_up I 0 15 (I 0 15 + 1)) F S from hA.1.2.1) hf c1 (fun v J hJ h0 => fin_ok h0 (fun q => absurd q (by decide)) (hn J _ (Inv_thr (x := 1) (by decide) ⟨F, S, n, cd, hA⟩ rfl (ro.refl _) hJ) (TI_x hT)))⟩
  · refine xq_force_b0 hA hG  c0 ?_
    refine Or.inl ⟨rfl, ?_⟩
    exact ⟨gsc 1 hi hL (by decide), gsc 2 hi hL (by decide), mq_force_b0 (F := F) (S := S) (show mN (m_up I 0 14 (I 0 14 + 1)) F S from hA.1.2.1)  c0 (fun v J hJ h0 => fin_ok h0 (fun q => absurd q (by decide)) (hn J _ (Inv_thr (x := 0) (by decide) ⟨F, S, n, cd, hA⟩ rfl (ro.refl _) hJ) (TI_x hT)))⟩
theorem ones_f : ∀ k : Fin 256, (ones (nI k.val) = 0 ↔ nI k.val = 0) ∧ (ones (nI k.val) ≤ 0 ↔ nI k.val = 0) := by decide +kernel
theorem ones_0 (r : Nat → Int32) {F : Nat} (h : F ≤ 8) : (ones (bits r F) = 0 ↔ bits r F = 0) ∧ (ones (bits r F) ≤ 0 ↔ bits r F = 0) := by
  obtain ⟨k, h1, h2⟩ := bits_nI r h
  have h3 : k < 256 := Nat.lt_of_lt_of_le h1 (Nat.pow_le_pow_right (n := 2) (by omega) h)
  rw [h2]
  exact ones_f ⟨k, h3⟩
def comV (B : II) (F n : Nat) (cd : Nat → Nat × Int32) (s : Nat) : Int32 := if bits (B 29) F = 0 then -1 else outc (B 7 s) (B 8 s) (B 3 7) (strB B F n cd) (tltB B F n cd)
theorem xq_comes (hA : InvA B F S n cd) (hT : TG T) {s : Nat} (hs : s < S) (hq : ∀ J, ro B J → Q (.inl (some (.int (comV B F n cd s)))) J T) : ev E 208 0 [some (.ref 0), some (.int (nI s))] [] B T Q := by
  have hC := hA.1
  have h8 := hC.F8
  have h6 := hC.S6
  refine s_X_comes_0 ?_
  unfold t_X_comes_0 t_X_comes_13
  refine q_needS hA.1.1 hT _ (fun _ => ?_) (fun q => absurd ⟨s, hs, rfl⟩ q)
  unfold comV at hq
  refine q_size hC (ro.refl B) ?_
  refine ⟨fun q => ?_, fun q => ?_⟩
  · have z := hq B (ro.refl B)
    rw [if_pos ((ones_0 _ h8).1.mp q)] at z
    exact z
  · refine q_outcome hC (ro.refl B) hs (fun J hJ => ?_)
    have z := hq J hJ
    rw [if_neg (fun e => q ((ones_0 _ h8).1.mpr e))] at z
    exact z
theorem mq_comes (hC : Core B F S n cd) (h : ro B I) {s : Nat} (hs : s < S) (hq : ∀ J, ro B J → J 46 0 = 0 → Q (.inl (some (.int (comV B F n cd s)))) J T) : ev E 210 0 [some (.ref 46), some (.int (nI s))] [] I T Q := by
  have h8 := hC.F8
  have h6 := hC.S6
  have hI : ro B (m_up I 46 0 0) := h.trans (ro_thrown I 0)
  have h0 : (m_up I 46 0 0) 46 0 = 0 := rfl
  refine s_M_comes_0 ?_
  unfold t_M_comes_0 t_M_comes_11 t_M_comes_36
  refine qm_isStage (hC.2.1.ro hI) _ ?_
  rw [wI_t ((okW_lt (by have := (hC.2.1.ro hI).2.2.2; omega)).mpr ⟨s, hs, rfl⟩)]
  refine bq_f (by decide) ?_
  refine qm_bad0 rfl _ _ ?_
  refine bq_t rfl ?_
  unfold comV at hq
  refine qm_bits hC hI ?_
  refine ⟨fun q => ?_, fun q => ?_⟩
  · have z := hq _ hI h0
    rw [if_pos q] at z
    exact z
  · refine qm_pulls' hC hI h0 (fun J hJ j0 => ?_)
    refine qm_tilt' hC hJ j0 (fun K hK k0 => ?_)
    refine qm_comesBy hC hK hs _ _ ?_
    have z := hq K hK k0
    rw [if_neg q] at z
    exact z
theorem xq_comes_b0 (hA : InvA B F S n cd) (hT : TG T) {a1 : Int32} (c : ¬ ∃ f, f < S ∧ a1 = nI f) (hq : Q (.inr 0) (m_up B 0 14 (B 0 14 + 1)) (TX T)) : ev E 208 0 [some (.ref 0), some (.int (a1))] [] B T Q := by
  refine s_X_comes_0 ?_
  unfold t_X_comes_0 t_X_comes_13
  exact q_needS hA.1.1 hT _ (fun q => absurd q c) (fun _ => hq)
theorem mq_comes_b0 (hm : mN I F S) {a1 : Int32} (c : ¬ ∃ f, f < S ∧ a1 = nI f) (hq : ∀ v J, ro (m_up I 48 0 (I 48 0 + 1)) J → J 46 0 = 1 → Q (.inl (some (.int v))) J T) : ev E 210 0 [some (.ref 46), some (.int (a1))] [] I T Q := by
  have hm2 : mN (m_up I 46 0 0) F S := hm
  refine s_M_comes_0 ?_
  unfold t_M_comes_0 t_M_comes_11 t_M_comes_36
  refine qm_isStage hm2 _ ?_
  rw [wI_f (fun q => c ((okW_lt (by have := hm.2.2.2; omega)).mp q))]
  refine bq_t rfl ?_
  refine qm_bad1 (j := 0) rfl (by decide) (by decide) ?_
  refine bq_f (by decide) ?_
  exact hq _ _ (ro_bad I _ _) rfl

theorem o_comes : op_ok Inv E t_W_main_546 := by
  intro I T Q i m hI hT hm hi hL hn
  have hG := TI_g hT hm
  obtain ⟨F, S, n, cd, hA⟩ := hI
  unfold t_W_main_546
  generalize E.2.2 (nI i + 1).toNatClampNeg = a1
  refine ⟨gsc 1 hi hL (by decide), ?_⟩
  refine s_W_comes_0 ?_
  unfold t_W_comes_0 t_W_comes_9
  by_cases c0 : ∃ f, f < S ∧ a1 = nI f
  · obtain ⟨s, hs, rfl⟩ := c0
    refine xq_comes hA hG hs (fun J hJ => ?_)
    exact ⟨gsc 1 hi hL (by decide), mq_comes hA.1 hJ hs (fun K hK h0 => fin_ok h0 (fun _ => rfl) (hn K _ ⟨F, S, n, cd, hA.ro hK⟩ (TI_s hT)))⟩
  · refine xq_comes_b0 hA hG  c0 ?_
    refine ⟨rfl, ?_⟩
    exact ⟨gsc 1 hi hL (by decide), mq_comes_b0 (F := F) (S := S) (show mN (m_up I 0 14 (I 0 14 + 1)) F S from hA.1.2.1)  c0 (fun v J hJ h0 => fin_ok h0 (fun q => absurd q (by decide)) (hn J _ (Inv_thr (x := 0) (by decide) ⟨F, S, n, cd, hA⟩ rfl (ro.refl _) hJ) (TI_x hT)))⟩
theorem xq_needs (hA : InvA B F S n cd) (hT : TG T) {s : Nat} (hs : s < S) (hq : ∀ J, ro B J → Q (.inl (some (.int (mx0 (B 7 s / 3 + 1 - strB B F n cd))))) J T) : ev E 303 0 [some (.ref 0), some (.int (nI s))] [] B T Q := by
  have hC := hA.1
  have h8 := hC.F8
  have h6 := hC.S6
  refine s_X_needs_0 ?_
  unfold t_X_needs_0
  refine q_needS hA.1.1 hT _ (fun _ => ?_) (fun q => absurd ⟨s, hs, rfl⟩ q)
  refine q_least hC (ro.refl B) hs ?_
  refine q_strength hC (ro.refl B) (fun J hJ => ?_)
  have z := hq J hJ
  rw [← p0_mx] at z
  exact z
theorem mq_needs (hC : Core B F S n cd) (h : ro B I) {s : Nat} (hs : s < S) (hq : ∀ J, ro B J → J 46 0 = 0 → Q (.inl (some (.int (mx0 (B 7 s / 3 + 1 - strB B F n cd))))) J T) : ev E 304 0 [some (.ref 46), some (.int (nI s))] [] I T Q := by
  have h8 := hC.F8
  have h6 := hC.S6
  have hI : ro B (m_up I 46 0 0) := h.trans (ro_thrown I 0)
  have h0 : (m_up I 46 0 0) 46 0 = 0 := rfl
  refine s_M_needs_0 ?_
  unfold t_M_needs_0 t_M_needs_11
  refine qm_isStage (hC.2.1.ro hI) _ ?_
  rw [wI_t ((okW_lt (by have := (hC.2.1.ro hI).2.2.2; omega)).mpr ⟨s, hs, rfl⟩)]
  refine bq_f (by decide) ?_
  refine qm_bad0 rfl _ _ ?_
  refine bq_t rfl ?_
  have e77 : (m_up I 46 0 0) (77 + s) = B (77 + s) := hI.cell (scr_rng (a := 77) (b := 83) (by omega) (by omega) (by decide))
  refine ⟨gix (by omega) (by omega), ?_⟩
  rw [nI_clamp (show s < 2 ^ 31 by omega), e77, (hC.st hs).1]
  refine qm_pulls' hC hI h0 (fun J hJ j0 => ?_)
  refine p_more _ _ ?_
  exact hq J hJ j0
theorem xq_needs_b0 (hA : InvA B F S n cd) (hT : TG T) {a1 : Int32} (c : ¬ ∃ f, f < S ∧ a1 = nI f) (hq : Q (.inr 0) (m_up B 0 14 (B 0 14 + 1)) (TX T)) : ev E 303 0 [some (.ref 0), some (.int (a1))] [] B T Q := by
  refine s_X_needs_0 ?_
  unfold t_X_needs_0
  exact q_needS hA.1.1 hT _ (fun q => absurd q c) (fun _ => hq)
theorem mq_needs_b0 (hm : mN I F S) {a1 : Int32} (c : ¬ ∃ f, f < S ∧ a1 = nI f) (hq : ∀ v J, ro (m_up I 48 0 (I 48 0 + 1)) J → J 46 0 = 1 → Q (.inl (some (.int v))) J T) : ev E 304 0 [some (.ref 46), some (.int (a1))] [] I T Q := by
  have hm2 : mN (m_up I 46 0 0) F S := hm
  refine s_M_needs_0 ?_
  unfold t_M_needs_0 t_M_needs_11
  refine qm_isStage hm2 _ ?_
  rw [wI_f (fun q => c ((okW_lt (by have := hm.2.2.2; omega)).mp q))]
  refine bq_t rfl ?_
  refine qm_bad1 (j := 0) rfl (by decide) (by decide) ?_
  refine bq_f (by decide) ?_
  exact hq _ _ (ro_bad I _ _) rfl

theorem o_needs : op_ok Inv E t_W_main_1240 := by
  intro I T Q i m hI hT hm hi hL hn
  have hG := TI_g hT hm
  obtain ⟨F, S, n, cd, hA⟩ := hI
  unfold t_W_main_1240
  generalize E.2.2 (nI i + 1).toNatClampNeg = a1
  refine ⟨gsc 1 hi hL (by decide), ?_⟩
  refine s_W_needs_0 ?_
  unfold t_W_needs_0 t_W_needs_9
  by_cases c0 : ∃ f, f < S ∧ a1 = nI f
  · obtain ⟨s, hs, rfl⟩ := c0
    refine xq_needs hA hG hs (fun J hJ => ?_)
    exact ⟨gsc 1 hi hL (by decide), mq_needs hA.1 hJ hs (fun K hK h0 => fin_ok h0 (fun _ => rfl) (hn K _ ⟨F, S, n, cd, hA.ro hK⟩ (TI_s hT)))⟩
  · refine xq_needs_b0 hA hG  c0 ?_
    refine ⟨rfl, ?_⟩
    exact ⟨gsc 1 hi hL (by decide), mq_needs_b0 (F := F) (S := S) (show mN (m_up I 0 14 (I 0 14 + 1)) F S from hA.1.2.1)  c0 (fun v J hJ h0 => fin_ok h0 (fun q => absurd q (by decide)) (hn J _ (Inv_thr (x := 0) (by decide) ⟨F, S, n, cd, hA⟩ rfl (ro.refl _) hJ) (TI_x hT)))⟩
theorem xq_pairs (hA : InvA B F S n cd) (hT : TG T) {f : Nat} (hf : f < F) (hq : ∀ J, ro B J → Q (.inl (some (.int (((((1 : Int32) <<< (nI F &&& 31)) - 1) &&& (((1 : Int32) <<< (nI f &&& 31)) ^^^ (-1))) &&& (B 6 f ^^^ (-1)))))) J T) : ev E 306 0 [some (.ref 0), some (.int (nI f)), none] [] B T Q := by
  have hC := hA.1
  have h8 := hC.F8
  have h6 := hC.S6
  refine s_X_pairs_0 ?_
  unfold t_X_pairs_0
  refine q_needF hA.1.1 hT _ (fun _ => ?_) (fun q => absurd ⟨f, hf, rfl⟩ q)
  refine q_foes hC (ro.refl B) hf ?_
  have z := hq B (ro.refl B)
  rw [← hC.1.1] at z
  exact z
theorem mq_pairs (hC : Core B F S n cd) (h : ro B I) {f : Nat} (hf : f < F) (hq : ∀ J, ro B J → J 46 0 = 0 → Q (.inl (some (.int (((((1 : Int32) <<< (nI F &&& 31)) - 1) &&& (((1 : Int32) <<< (nI f &&& 31)) ^^^ (-1))) &&& (B 6 f ^^^ (-1)))))) J T) : ev E 307 0 [some (.ref 46), some (.int (nI f))] [] I T Q := by
  have h8 := hC.F8
  have h6 := hC.S6
  have hI : ro B (m_up I 46 0 0) := h.trans (ro_thrown I 0)
  have h0 : (m_up I 46 0 0) 46 0 = 0 := rfl
  refine s_M_pairs_0 ?_
  unfold t_M_pairs_0 t_M_pairs_11
  refine qm_isFeeling (hC.2.1.ro hI) _ ?_
  rw [wI_t ((okW_lt (hC.2.1.ro hI).2.1).mpr ⟨f, hf, rfl⟩)]
  refine bq_f (by decide) ?_
  refine qm_bad0 rfl _ _ ?_
  refine bq_t rfl ?_
  have e84 : (m_up I 46 0 0) 84 = B 84 := hI.cell (c := 84) (by decide)
  have e50 : (m_up I 46 0 0) 50 = B 50 := hI.cell (c := 50) (by decide)
  refine ⟨gix (by omega) (by omega), ?_⟩
  rw [nI_clamp (show f < 2 ^ 31 by omega), e84, (hC.fe hf).2.2.1, e50, hC.2.1.1, Int32.and_assoc, Int32.and_comm (B 6 f ^^^ (-1)), ← Int32.and_assoc]
  exact hq _ hI h0
theorem xq_pairs_b0 (hA : InvA B F S n cd) (hT : TG T) {a1 : Int32} (c : ¬ ∃ f, f < F ∧ a1 = nI f) (hq : Q (.inr 0) (m_up B 0 14 (B 0 14 + 1)) (TX T)) : ev E 306 0 [some (.ref 0), some (.int (a1)), none] [] B T Q := by
  refine s_X_pairs_0 ?_
  unfold t_X_pairs_0
  exact q_needF hA.1.1 hT _ (fun q => absurd q c) (fun _ => hq)
theorem mq_pairs_b0 (hm : mN I F S) {a1 : Int32} (c : ¬ ∃ f, f < F ∧ a1 = nI f) (hq : ∀ v J, ro (m_up I 48 0 (I 48 0 + 1)) J → J 46 0 = 1 → Q (.inl (some (.int v))) J T) : ev E 307 0 [some (.ref 46), some (.int (a1))] [] I T Q := by
  have hm2 : mN (m_up I 46 0 0) F S := hm
  refine s_M_pairs_0 ?_
  unfold t_M_pairs_0 t_M_pairs_11
  refine qm_isFeeling hm2 _ ?_
  rw [wI_f (fun q => c ((okW_lt hm.2.1).mp q))]
  refine bq_t rfl ?_
  refine qm_bad1 (j := 0) rfl (by decide) (by decide) ?_
  refine bq_f (by decide) ?_
  exact hq _ _ (ro_bad I _ _) rfl

theorem o_pairs : op_ok Inv E t_W_main_1275 := by
  intro I T Q i m hI hT hm hi hL hn
  have hG := TI_g hT hm
  obtain ⟨F, S, n, cd, hA⟩ := hI
  unfold t_W_main_1275
  generalize E.2.2 (nI i + 1).toNatClampNeg = a1
  refine ⟨gsc 1 hi hL (by decide), ?_⟩
  refine s_W_pairs_0 ?_
  unfold t_W_pairs_0 t_W_pairs_9
  by_cases c0 : ∃ f, f < F ∧ a1 = nI f
  · obtain ⟨f, hf, rfl⟩ := c0
    refine xq_pairs hA hG hf (fun J hJ => ?_)
    exact ⟨gsc 1 hi hL (by decide), mq_pairs hA.1 hJ hf (fun K hK h0 => fin_ok h0 (fun _ => rfl) (hn K _ ⟨F, S, n, cd, hA.ro hK⟩ (TI_s hT)))⟩
  · refine xq_pairs_b0 hA hG  c0 ?_
    refine ⟨rfl, ?_⟩
    exact ⟨gsc 1 hi hL (by decide), mq_pairs_b0 (F := F) (S := S) (show mN (m_up I 0 14 (I 0 14 + 1)) F S from hA.1.2.1)  c0 (fun v J hJ h0 => fin_ok h0 (fun q => absurd q (by decide)) (hn J _ (Inv_thr (x := 0) (by decide) ⟨F, S, n, cd, hA⟩ rfl (ro.refl _) hJ) (TI_x hT)))⟩
def opV (B : II) (F n : Nat) (cd : Nat → Nat × Int32) (s : Nat) (b : Int32) : Int32 := if bits (B 29) F = 0 then b else if outc (B 7 s) (B 8 s) (B 3 7) (strB B F n cd) (tltB B F n cd) = 2 then b ||| ((1 : Int32) <<< (nI s &&& 31)) else b
theorem l_xopen (hC : Core B F S n cd) : ∀ (d s : Nat) (b : Int32) (I : II), ro B I → s + d = S → (∀ J, ro B J → Q (.inl (some (.int (rep (opV B F n cd) d s b)))) J T) → t_X_open_4 E I T Q b (nI s)
  | 0, s, b, I, h, hs, hq => by
    have h6 := hC.S6
    unfold t_X_open_4
    rw [(hC.1.ro h).2.2.1]
    exact bq_t (nI_le (by omega) (by omega)) (hq I h)
  | d + 1, s, b, I, h, hs, hq => by
    have h6 := hC.S6
    have h8 := hC.F8
    unfold t_X_open_4 t_X_open_25
    rw [(hC.1.ro h).2.2.1]
    refine bq_f (nI_ge (by omega) (by omega)) ?_
    refine q_size hC h ?_
    rw [rep] at hq
    unfold opV at hq
    refine ⟨fun q => ?_, fun q => ?_⟩
    · rw [nI_1]
      refine s_X_open_4 (l_xopen hC d (s + 1) b I h (by omega) ?_)
      rw [if_pos ((ones_0 _ h8).2.mp q)] at hq
      exact hq
    · rw [if_neg (fun e => q ((ones_0 _ h8).2.mpr e))] at hq
      refine q_outcome hC h (by omega) (fun J hJ => ?_)
      rw [nI_1]
      refine ⟨fun q2 => ?_, fun q2 => ?_⟩
      · rw [if_pos q2] at hq
        exact s_X_open_4 (l_xopen hC d (s + 1) _ J hJ (by omega) hq)
      · rw [if_neg q2] at hq
        exact s_X_open_4 (l_xopen hC d (s + 1) _ J hJ (by omega) hq)
theorem xq_open (hA : InvA B F S n cd) (hq : ∀ J, ro B J → Q (.inl (some (.int (rep (opV B F n cd) S 0 0)))) J T) : ev E 292 0 [some (.ref 0), none, none] [] B T Q :=
  s_X_open_0 (l_xopen hA.1 S 0 0 B (ro.refl B) (by omega) hq)
theorem l_mopen (hC : Core B F S n cd) : ∀ (d s : Nat) (b : Int32) (I : II), ro B I → s + d = S → (∀ J, ro B J → Q (.inl (some (.int (rep (opV B F n cd) d s b)))) J T) → t_M_open_7 E I T Q b (nI s)
  | 0, s, b, I, h, hs, hq => by
    have h6 := hC.S6
    unfold t_M_open_7
    rw [(hC.2.1.ro h).2.2.1]
    exact bq_t (nI_le (by omega) (by omega)) (hq I h)
  | d + 1, s, b, I, h, hs, hq => by
    have h6 := hC.S6
    have h8 := hC.F8
    unfold t_M_open_7 t_M_open_37 t_M_open_38
    rw [(hC.2.1.ro h).2.2.1]
    refine bq_f (nI_ge (by omega) (by omega)) ?_
    refine qm_bits hC h ?_
    rw [rep] at hq
    unfold opV at hq
    rw [nI_1, or_z]
    refine ⟨fun q => ?_, fun q => ?_⟩
    · refine s_M_open_7 (l_mopen hC d (s + 1) b I h (by omega) ?_)
      rw [if_pos q] at hq
      exact hq
    · rw [if_neg q] at hq
      refine qm_pulls hC h (fun J hJ => ?_)
      refine qm_tilt hC hJ (fun K hK => ?_)
      refine qm_comesBy hC hK (by omega) _ _ ?_
      refine ⟨fun q2 => ?_, fun q2 => ?_⟩
      · rw [if_pos q2] at hq
        exact s_M_open_7 (l_mopen hC d (s + 1) _ K hK (by omega) hq)
      · rw [if_neg q2] at hq
        exact s_M_open_7 (l_mopen hC d (s + 1) _ K hK (by omega) hq)
theorem mq_open (hA : InvA B F S n cd) (h : ro B I) (hq : ∀ J, ro B J → Q (.inl (some (.int (rep (opV B F n cd) S 0 0)))) J T) : ev E 293 0 [some (.ref 46), none, none] [] I T Q :=
  s_M_open_0 (l_mopen hA.1 S 0 0 _ (h.trans (ro_thrown I 0)) (by omega) hq)
theorem o_open : op_ok Inv E t_W_main_1146 := by
  intro I T Q i m hI hT hm hi hL hn
  have hG := TI_g hT hm
  obtain ⟨F, S, n, cd, hA⟩ := hI
  unfold t_W_main_1146
  refine xq_open hA  (fun J hJ => ?_)
  exact mq_open hA hJ  (fun K hK => bq_t rfl (hn K _ ⟨F, S, n, cd, hA.ro hK⟩ (TI_s hT)))
def lnV (B : II) (j s : Nat) (a : Int32) : Int32 := if (B 29 25 ≤ nI s ↔ j = 0) then a else a + B 7 s
theorem l_xlength (hC : Core B F S n cd) {j : Nat} (hj : j ≤ 1) : ∀ (d s : Nat) (a : Int32), s + d = S → Q (.inl (some (.int (rep (lnV B j) d s a)))) B T → t_X_length_10 E B T Q (nI j) a (nI s)
  | 0, s, a, hs, hq => by
    have h6 := hC.S6
    unfold t_X_length_10
    rw [hC.1.2.2.1]
    exact bq_t (nI_le (by omega) (by omega)) hq
  | d + 1, s, a, hs, hq => by
    have h6 := hC.S6
    unfold t_X_length_10 t_X_length_23 t_X_length_28 t_X_length_36
    rw [hC.1.2.2.1]
    refine bq_f (nI_ge (by omega) (by omega)) ?_
    refine q_behind (ro.refl B) ?_
    rw [rep] at hq
    unfold lnV at hq
    rw [nI_1]
    match j, hj with
    | 0, _ =>
      refine ⟨fun q => bq_t rfl (bq_f (by decide) ?_), fun q => bq_t rfl (bq_t rfl ?_)⟩
      · rw [if_pos ⟨fun _ => rfl, fun _ => q⟩] at hq
        exact s_X_length_10 (l_xlength hC (by omega) d (s + 1) a (by omega) hq)
      · rw [if_neg (fun e => q (e.mpr rfl))] at hq
        refine q_len hC (ro.refl B) (by omega) ?_
        exact s_X_length_10 (l_xlength hC (by omega) d (s + 1) _ (by omega) hq)
    | 1, _ =>
      refine ⟨fun q => bq_f (by decide) (bq_t rfl ?_), fun q => bq_f (by decide) (bq_f (by decide) ?_)⟩
      · rw [if_neg (fun e => absurd (e.mp q) (by decide))] at hq
        refine q_len hC (ro.refl B) (by omega) ?_
        exact s_X_length_10 (l_xlength hC (by omega) d (s + 1) _ (by omega) hq)
      · rw [if_pos ⟨fun e => absurd e q, fun e => absurd e (by decide)⟩] at hq
        exact s_X_length_10 (l_xlength hC (by omega) d (s + 1) a (by omega) hq)
theorem l_mlength (hC : Core B F S n cd) (h : ro B I) {j : Nat} (hj : j ≤ 1) : ∀ (d s : Nat) (a : Int32), s + d = S → Q (.inl (some (.int (rep (lnV B j) d s a)))) I T → t_M_length_22 E I T Q (nI j) a (nI s)
  | 0, s, a, hs, hq => by
    have h6 := hC.S6
    unfold t_M_length_22
    rw [(hC.2.1.ro h).2.2.1]
    exact bq_t (nI_le (by omega) (by omega)) hq
  | d + 1, s, a, hs, hq => by
    have h6 := hC.S6
    have e508 : I 508 = B 508 := h.cell (c := 508) (by decide)
    have e77 : I (77 + s) = B (77 + s) := h.cell (scr_rng (a := 77) (b := 83) (by omega) (by omega) (by decide))
    unfold t_M_length_22 t_M_length_38 t_M_length_43 t_M_length_52
    rw [(hC.2.1.ro h).2.2.1]
    refine bq_f (nI_ge (by omega) (by omega)) ?_
    rw [rep] at hq
    unfold lnV at hq
    have gs : ¬ nI s < 0 ∧ s < 6 := ⟨nI_pos (by omega), by omega⟩
    rw [nI_1, nI_clamp (show s < 2 ^ 31 by omega), e508, hC.q (by omega), e77, (hC.st (by omega)).1, Int32.add_zero]
    match j, hj with
    | 0, _ =>
      refine ⟨fun q => bq_t rfl (bq_f (by decide) ?_), fun q => bq_t rfl (bq_t rfl ⟨gs, ?_⟩)⟩
      · rw [if_pos ⟨fun _ => rfl, fun _ => q⟩] at hq
        exact s_M_length_22 (l_mlength hC h (by omega) d (s + 1) a (by omega) hq)
      · rw [if_neg (fun e => q (e.mpr rfl))] at hq
        exact s_M_length_22 (l_mlength hC h (by omega) d (s + 1) _ (by omega) hq)
    | 1, _ =>
      refine ⟨fun q => bq_f (by decide) (bq_t rfl ⟨gs, ?_⟩), fun q => bq_f (by decide) (bq_f (by decide) ?_)⟩
      · rw [if_neg (fun e => absurd (e.mp q) (by decide))] at hq
        exact s_M_length_22 (l_mlength hC h (by omega) d (s + 1) _ (by omega) hq)
      · rw [if_pos ⟨fun e => absurd e q, fun e => absurd e (by decide)⟩] at hq
        exact s_M_length_22 (l_mlength hC h (by omega) d (s + 1) a (by omega) hq)
theorem xq_length (hA : InvA B F S n cd) (hT : TG T) {j : Nat} (hj : j ≤ 1) (hq : ∀ J, ro B J → Q (.inl (some (.int (rep (lnV B j) S 0 0)))) J T) : ev E 309 0 [some (.ref 0), some (.int (nI j)), none, none] [] B T Q := by
  have hC := hA.1
  have h8 := hC.F8
  have h6 := hC.S6
  refine s_X_length_0 ?_
  unfold t_X_length_0
  refine q_within _ _ _ ?_
  rw [show wI (nI j) 0 1 = 1 from wI_n (b := 1) hj (by decide)]
  refine q_need hT _ (fun _ => ?_) (fun q => absurd q (by decide))
  exact l_xlength hC hj S 0 0 (by omega) (hq B (ro.refl B))
theorem mq_length (hC : Core B F S n cd) (h : ro B I) {j : Nat} (hj : j ≤ 1) (hq : ∀ J, ro B J → J 46 0 = 0 → Q (.inl (some (.int (rep (lnV B j) S 0 0)))) J T) : ev E 310 0 [some (.ref 46), some (.int (nI j)), none, none] [] I T Q := by
  have h8 := hC.F8
  have h6 := hC.S6
  have hI : ro B (m_up I 46 0 0) := h.trans (ro_thrown I 0)
  have h0 : (m_up I 46 0 0) 46 0 = 0 := rfl
  refine s_M_length_0 ?_
  unfold t_M_length_0 t_M_length_12
  refine q_in _ _ _ ?_
  rw [show wI (nI j) 0 1 = 1 from wI_n (b := 1) hj (by decide)]
  refine bq_f (by decide) ?_
  refine qm_bad0 rfl _ _ ?_
  refine bq_t rfl ?_
  exact l_mlength hC hI hj S 0 0 (by omega) (hq _ hI h0)
theorem xq_length_b0 (hA : InvA B F S n cd) (hT : TG T) {a1 : Int32} (c : ¬ okW a1 0 1) (hq : Q (.inr 1) (m_up B 0 15 (B 0 15 + 1)) (TX T)) : ev E 309 0 [some (.ref 0), some (.int (a1)), none, none] [] B T Q := by
  refine s_X_length_0 ?_
  unfold t_X_length_0
  refine q_within _ _ _ ?_
  rw [wI_f c]
  exact q_need hT _ (fun q => absurd rfl q) (fun _ => hq)
theorem mq_length_b0 (hm : mN I F S) {a1 : Int32} (c : ¬ okW a1 0 1) (hq : ∀ v J, ro (m_up I 48 1 (I 48 1 + 1)) J → J 46 0 = 1 → Q (.inl (some (.int v))) J T) : ev E 310 0 [some (.ref 46), some (.int (a1)), none, none] [] I T Q := by
  have hm2 : mN (m_up I 46 0 0) F S := hm
  refine s_M_length_0 ?_
  unfold t_M_length_0 t_M_length_12
  refine q_in _ _ _ ?_
  rw [wI_f c]
  refine bq_t rfl ?_
  refine qm_bad1 (j := 1) rfl (by decide) (by decide) ?_
  refine bq_f (by decide) ?_
  exact hq _ _ (ro_bad I _ _) rfl

theorem o_length : op_ok Inv E t_W_main_1310 := by
  intro I T Q i m hI hT hm hi hL hn
  have hG := TI_g hT hm
  obtain ⟨F, S, n, cd, hA⟩ := hI
  unfold t_W_main_1310
  generalize E.2.2 (nI i + 1).toNatClampNeg = a1
  refine ⟨gsc 1 hi hL (by decide), ?_⟩
  refine s_W_length_0 ?_
  unfold t_W_length_0 t_W_length_9
  by_cases c0 : okW a1 0 1
  · obtain ⟨j, hj, rfl⟩ := okW_nat (k := 1) (by decide) c0
    refine xq_length hA hG hj (fun J hJ => ?_)
    exact ⟨gsc 1 hi hL (by decide), mq_length hA.1 hJ hj (fun K hK h0 => fin_ok h0 (fun _ => rfl) (hn K _ ⟨F, S, n, cd, hA.ro hK⟩ (TI_s hT)))⟩
  · refine xq_length_b0 hA hG  c0 ?_
    refine ⟨rfl, ?_⟩
    exact ⟨gsc 1 hi hL (by decide), mq_length_b0 (F := F) (S := S) (show mN (m_up I 0 15 (I 0 15 + 1)) F S from hA.1.2.1)  c0 (fun v J hJ h0 => fin_ok h0 (fun q => absurd q (by decide)) (hn J _ (Inv_thr (x := 1) (by decide) ⟨F, S, n, cd, hA⟩ rfl (ro.refl _) hJ) (TI_x hT)))⟩
def wlV (B : II) (F : Nat) (p : Int32) (f : Nat) (b : Int32) : Int32 := if canP (B 29) F (B 6 f) f p = 0 then b else b ||| ((1 : Int32) <<< (nI f &&& 31))
theorem l_xwilling (hC : Core B F S n cd) (p : Int32) : ∀ (d f : Nat) (b : Int32), f + d = F → Q (.inl (some (.int (rep (wlV B F p) d f b)))) B T → t_X_willing_8 E B T Q p b (nI f)
  | 0, f, b, hf, hq => by
    have h8 := hC.F8
    unfold t_X_willing_8
    rw [hC.1.1]
    exact bq_t (nI_le (by omega) (by omega)) hq
  | d + 1, f, b, hf, hq => by
    have h8 := hC.F8
    unfold t_X_willing_8 t_X_willing_25
    rw [hC.1.1]
    refine bq_f (nI_ge (by omega) (by omega)) ?_
    refine q_canPut hC (ro.refl B) (by omega) _ ?_
    rw [rep] at hq
    unfold wlV at hq
    rw [nI_1]
    refine ⟨fun q => ?_, fun q => ?_⟩
    · rw [if_pos q] at hq
      exact s_X_willing_8 (l_xwilling hC p d (f + 1) b (by omega) hq)
    · rw [if_neg q] at hq
      exact s_X_willing_8 (l_xwilling hC p d (f + 1) _ (by omega) hq)
theorem l_mwilling (hC : Core B F S n cd) (h : ro B I) (p : Int32) : ∀ (d f : Nat) (b : Int32), f + d = F → Q (.inl (some (.int (rep (wlV B F p) d f b)))) I T → t_M_willing_20 E I T Q p b (nI f)
  | 0, f, b, hf, hq => by
    have h8 := hC.F8
    unfold t_M_willing_20
    rw [(hC.2.1.ro h).1]
    exact bq_t (nI_le (by omega) (by omega)) hq
  | d + 1, f, b, hf, hq => by
    have h8 := hC.F8
    unfold t_M_willing_20 t_M_willing_39
    rw [(hC.2.1.ro h).1]
    refine bq_f (nI_ge (by omega) (by omega)) ?_
    refine qm_canPut hC h (by omega) _ ?_
    rw [rep] at hq
    unfold wlV at hq
    rw [nI_1, or_z]
    refine ⟨fun q => ?_, fun q => ?_⟩
    · rw [if_pos q] at hq
      exact s_M_willing_20 (l_mwilling hC h p d (f + 1) b (by omega) hq)
    · rw [if_neg q] at hq
      exact s_M_willing_20 (l_mwilling hC h p d (f + 1) _ (by omega) hq)
theorem xq_willing (hA : InvA B F S n cd) (hT : TG T) {p : Nat} (hp : p ≤ 3) (hq : ∀ J, ro B J → Q (.inl (some (.int (rep (wlV B F (nI p)) F 0 0)))) J T) : ev E 287 0 [some (.ref 0), some (.int (nI p)), none, none] [] B T Q := by
  have hC := hA.1
  have h8 := hC.F8
  have h6 := hC.S6
  refine s_X_willing_0 ?_
  unfold t_X_willing_0
  refine q_isPlace _ ?_
  rw [show wI (nI p) 0 3 = 1 from wI_n (b := 3) hp (by decide)]
  refine q_need hT _ (fun _ => ?_) (fun q => absurd q (by decide))
  exact l_xwilling hC _ F 0 0 (by omega) (hq B (ro.refl B))
theorem mq_willing (hC : Core B F S n cd) (h : ro B I) {p : Nat} (hp : p ≤ 3) (hq : ∀ J, ro B J → J 46 0 = 0 → Q (.inl (some (.int (rep (wlV B F (nI p)) F 0 0)))) J T) : ev E 288 0 [some (.ref 46), some (.int (nI p)), none, none] [] I T Q := by
  have h8 := hC.F8
  have h6 := hC.S6
  have hI : ro B (m_up I 46 0 0) := h.trans (ro_thrown I 0)
  have h0 : (m_up I 46 0 0) 46 0 = 0 := rfl
  refine s_M_willing_0 ?_
  unfold t_M_willing_0 t_M_willing_10
  refine qm_isPlace _ ?_
  rw [show wI (nI p) 0 3 = 1 from wI_n (b := 3) hp (by decide)]
  refine bq_f (by decide) ?_
  refine qm_bad0 rfl _ _ ?_
  refine bq_t rfl ?_
  exact l_mwilling hC hI _ F 0 0 (by omega) (hq _ hI h0)
theorem xq_willing_b0 (hA : InvA B F S n cd) (hT : TG T) {a1 : Int32} (c : ¬ okW a1 0 3) (hq : Q (.inr 1) (m_up B 0 15 (B 0 15 + 1)) (TX T)) : ev E 287 0 [some (.ref 0), some (.int (a1)), none, none] [] B T Q := by
  refine s_X_willing_0 ?_
  unfold t_X_willing_0
  refine q_isPlace _ ?_
  rw [wI_f c]
  exact q_need hT _ (fun q => absurd rfl q) (fun _ => hq)
theorem mq_willing_b0 (hm : mN I F S) {a1 : Int32} (c : ¬ okW a1 0 3) (hq : ∀ v J, ro (m_up I 48 1 (I 48 1 + 1)) J → J 46 0 = 1 → Q (.inl (some (.int v))) J T) : ev E 288 0 [some (.ref 46), some (.int (a1)), none, none] [] I T Q := by
  have hm2 : mN (m_up I 46 0 0) F S := hm
  refine s_M_willing_0 ?_
  unfold t_M_willing_0 t_M_willing_10
  refine qm_isPlace _ ?_
  rw [wI_f c]
  refine bq_t rfl ?_
  refine qm_bad1 (j := 1) rfl (by decide) (by decide) ?_
  refine bq_f (by decide) ?_
  exact hq _ _ (ro_bad I _ _) rfl

theorem o_willing : op_ok Inv E t_W_main_1076 := by
  intro I T Q i m hI hT hm hi hL hn
  have hG := TI_g hT hm
  obtain ⟨F, S, n, cd, hA⟩ := hI
  unfold t_W_main_1076
  generalize E.2.2 (nI i + 1).toNatClampNeg = a1
  refine ⟨gsc 1 hi hL (by decide), ?_⟩
  refine s_W_willing_0 ?_
  unfold t_W_willing_0 t_W_willing_9
  by_cases c0 : okW a1 0 3
  · obtain ⟨p, hp, rfl⟩ := okW_nat (k := 3) (by decide) c0
    refine xq_willing hA hG hp (fun J hJ => ?_)
    exact ⟨gsc 1 hi hL (by decide), mq_willing hA.1 hJ hp (fun K hK h0 => fin_ok h0 (fun _ => rfl) (hn K _ ⟨F, S, n, cd, hA.ro hK⟩ (TI_s hT)))⟩
  · refine xq_willing_b0 hA hG  c0 ?_
    refine ⟨rfl, ?_⟩
    exact ⟨gsc 1 hi hL (by decide), mq_willing_b0 (F := F) (S := S) (show mN (m_up I 0 15 (I 0 15 + 1)) F S from hA.1.2.1)  c0 (fun v J hJ h0 => fin_ok h0 (fun q => absurd q (by decide)) (hn J _ (Inv_thr (x := 1) (by decide) ⟨F, S, n, cd, hA⟩ rfl (ro.refl _) hJ) (TI_x hT)))⟩
def clV (B : II) (f : Nat) (a : Int32 × Int32 × Int32) : Int32 × Int32 × Int32 := if ones (B 6 f) ≤ a.2.2 then (a.1 + ones (B 6 f), a.2) else (a.1 + ones (B 6 f), nI f, ones (B 6 f))
def clR (j : Nat) (a : Int32 × Int32 × Int32) : Int32 := if j = 0 then a.1 / 2 else a.2.1
theorem bc_6 (hC : Core B F S n cd) {f : Nat} (hf : f < F) : bc (B 6 f) = ones (B 6 f) := by
  obtain ⟨-, -, -, -, -, m, hm, e⟩ := hC.fe hf
  rw [e]
  exact bc_ones ⟨m, hm⟩
theorem l_xclashes (hC : Core B F S n cd) {j : Nat} (hj : j ≤ 1) : ∀ (d f : Nat) (a : Int32 × Int32 × Int32), f + d = F → Q (.inl (some (.int (clR j (rep (clV B) d f a))))) B T → t_X_clashes_14 E B T Q (nI j) a.1 a.2.1 a.2.2 (nI f)
  | 0, f, a, hf, hq => by
    have h8 := hC.F8
    unfold t_X_clashes_14 t_X_clashes_45
    rw [hC.1.1]
    refine bq_t (nI_le (by omega) (by omega)) ?_
    match j, hj with
    | 0, _ => exact bq_t rfl hq
    | 1, _ => exact bq_f (by decide) hq
  | d + 1, f, a, hf, hq => by
    have h8 := hC.F8
    unfold t_X_clashes_14 t_X_clashes_36
    rw [hC.1.1]
    refine bq_f (nI_ge (by omega) (by omega)) ?_
    refine q_foes hC (ro.refl B) (by omega) ?_
    refine p_bitCount _ ?_
    rw [bc_6 hC (by omega), nI_1]
    rw [rep] at hq
    refine ⟨fun q => ?_, fun q => ?_⟩
    · have e : clV B f a = (a.1 + ones (B 6 f), a.2) := if_pos q
      rw [e] at hq
      exact s_X_clashes_14 (l_xclashes hC hj d (f + 1) (a.1 + ones (B 6 f), a.2) (by omega) hq)
    · have e : clV B f a = (a.1 + ones (B 6 f), nI f, ones (B 6 f)) := if_neg q
      rw [e] at hq
      exact s_X_clashes_14 (l_xclashes hC hj d (f + 1) (a.1 + ones (B 6 f), nI f, ones (B 6 f)) (by omega) hq)
theorem l_mclashes (hC : Core B F S n cd) (h : ro B I) {j : Nat} (hj : j ≤ 1) : ∀ (d f : Nat) (a : Int32 × Int32 × Int32), f + d = F → Q (.inl (some (.int (clR j (rep (clV B) d f a))))) I T → t_M_clashes_26 E I T Q (nI j) a.1 a.2.1 a.2.2 (nI f)
  | 0, f, a, hf, hq => by
    have h8 := hC.F8
    unfold t_M_clashes_26 t_M_clashes_62
    rw [(hC.2.1.ro h).1]
    refine bq_t (nI_le (by omega) (by omega)) ?_
    match j, hj with
    | 0, _ => exact bq_t rfl hq
    | 1, _ => exact bq_f (by decide) hq
  | d + 1, f, a, hf, hq => by
    have h8 := hC.F8
    have e84 : I 84 = B 84 := h.cell (c := 84) (by decide)
    unfold t_M_clashes_26 t_M_clashes_48
    rw [(hC.2.1.ro h).1]
    refine bq_f (nI_ge (by omega) (by omega)) ⟨gix (by omega) (by omega), ?_⟩
    rw [nI_clamp (show f < 2 ^ 31 by omega), e84, (hC.fe (show f < F by omega)).2.2.1]
    refine p_ones _ ?_
    rw [nI_1]
    rw [rep] at hq
    refine ⟨fun q => ?_, fun q => ?_⟩
    · have e : clV B f a = (a.1 + ones (B 6 f), a.2) := if_pos q
      rw [e] at hq
      refine p_more _ _ ?_
      have em : (if a.2.2 ≤ ones (B 6 f) then ones (B 6 f) else a.2.2) = a.2.2 := by
        by_cases c : a.2.2 ≤ ones (B 6 f)
        · rw [if_pos c, fa_eq]
          rw [fa_le] at c q
          omega
        · rw [if_neg c]
      rw [em]
      exact s_M_clashes_26 (l_mclashes hC h hj d (f + 1) (a.1 + ones (B 6 f), a.2) (by omega) hq)
    · have e : clV B f a = (a.1 + ones (B 6 f), nI f, ones (B 6 f)) := if_neg q
      rw [e] at hq
      refine p_more _ _ ?_
      have em : (if a.2.2 ≤ ones (B 6 f) then ones (B 6 f) else a.2.2) = ones (B 6 f) := by
        rw [if_pos]
        rw [fa_le] at q ⊢
        omega
      rw [em]
      exact s_M_clashes_26 (l_mclashes hC h hj d (f + 1) (a.1 + ones (B 6 f), nI f, ones (B 6 f)) (by omega) hq)
theorem xq_clashes (hA : InvA B F S n cd) (hT : TG T) {j : Nat} (hj : j ≤ 1) (hq : ∀ J, ro B J → Q (.inl (some (.int (clR j (rep (clV B) F 0 (0, -1, 0)))))) J T) : ev E 290 0 [some (.ref 0), some (.int (nI j)), none, none, none, none, none] [] B T Q := by
  have hC := hA.1
  have h8 := hC.F8
  have h6 := hC.S6
  refine s_X_clashes_0 ?_
  unfold t_X_clashes_0
  refine q_within _ _ _ ?_
  rw [show wI (nI j) 0 1 = 1 from wI_n (b := 1) hj (by decide)]
  refine q_need hT _ (fun _ => ?_) (fun q => absurd q (by decide))
  exact l_xclashes hC hj F 0 (0, -1, 0) (by omega) (hq B (ro.refl B))
theorem mq_clashes (hC : Core B F S n cd) (h : ro B I) {j : Nat} (hj : j ≤ 1) (hq : ∀ J, ro B J → J 46 0 = 0 → Q (.inl (some (.int (clR j (rep (clV B) F 0 (0, -1, 0)))))) J T) : ev E 291 0 [some (.ref 46), some (.int (nI j)), none, none, none, none, none] [] I T Q := by
  have h8 := hC.F8
  have h6 := hC.S6
  have hI : ro B (m_up I 46 0 0) := h.trans (ro_thrown I 0)
  have h0 : (m_up I 46 0 0) 46 0 = 0 := rfl
  refine s_M_clashes_0 ?_
  unfold t_M_clashes_0 t_M_clashes_12
  refine q_in _ _ _ ?_
  rw [show wI (nI j) 0 1 = 1 from wI_n (b := 1) hj (by decide)]
  refine bq_f (by decide) ?_
  refine qm_bad0 rfl _ _ ?_
  refine bq_t rfl ?_
  exact l_mclashes hC hI hj F 0 (0, -1, 0) (by omega) (hq _ hI h0)
theorem xq_clashes_b0 (hA : InvA B F S n cd) (hT : TG T) {a1 : Int32} (c : ¬ okW a1 0 1) (hq : Q (.inr 1) (m_up B 0 15 (B 0 15 + 1)) (TX T)) : ev E 290 0 [some (.ref 0), some (.int (a1)), none, none, none, none, none] [] B T Q := by
  refine s_X_clashes_0 ?_
  unfold t_X_clashes_0
  refine q_within _ _ _ ?_
  rw [wI_f c]
  exact q_need hT _ (fun q => absurd rfl q) (fun _ => hq)
theorem mq_clashes_b0 (hm : mN I F S) {a1 : Int32} (c : ¬ okW a1 0 1) (hq : ∀ v J, ro (m_up I 48 1 (I 48 1 + 1)) J → J 46 0 = 1 → Q (.inl (some (.int v))) J T) : ev E 291 0 [some (.ref 46), some (.int (a1)), none, none, none, none, none] [] I T Q := by
  have hm2 : mN (m_up I 46 0 0) F S := hm
  refine s_M_clashes_0 ?_
  unfold t_M_clashes_0 t_M_clashes_12
  refine q_in _ _ _ ?_
  rw [wI_f c]
  refine bq_t rfl ?_
  refine qm_bad1 (j := 1) rfl (by decide) (by decide) ?_
  refine bq_f (by decide) ?_
  exact hq _ _ (ro_bad I _ _) rfl

theorem o_clashes : op_ok Inv E t_W_main_1111 := by
  intro I T Q i m hI hT hm hi hL hn
  have hG := TI_g hT hm
  obtain ⟨F, S, n, cd, hA⟩ := hI
  unfold t_W_main_1111
  generalize E.2.2 (nI i + 1).toNatClampNeg = a1
  refine ⟨gsc 1 hi hL (by decide), ?_⟩
  refine s_W_clashes_0 ?_
  unfold t_W_clashes_0 t_W_clashes_9
  by_cases c0 : okW a1 0 1
  · obtain ⟨j, hj, rfl⟩ := okW_nat (k := 1) (by decide) c0
    refine xq_clashes hA hG hj (fun J hJ => ?_)
    exact ⟨gsc 1 hi hL (by decide), mq_clashes hA.1 hJ hj (fun K hK h0 => fin_ok h0 (fun _ => rfl) (hn K _ ⟨F, S, n, cd, hA.ro hK⟩ (TI_s hT)))⟩
  · refine xq_clashes_b0 hA hG  c0 ?_
    refine ⟨rfl, ?_⟩
    exact ⟨gsc 1 hi hL (by decide), mq_clashes_b0 (F := F) (S := S) (show mN (m_up I 0 15 (I 0 15 + 1)) F S from hA.1.2.1)  c0 (fun v J hJ h0 => fin_ok h0 (fun q => absurd q (by decide)) (hn J _ (Inv_thr (x := 1) (by decide) ⟨F, S, n, cd, hA⟩ rfl (ro.refl _) hJ) (TI_x hT)))⟩
end OPB
