/-! ===== askings: weariest, loosest, rested, would ===== -/
section OPC
variable {E : MEnv} {B I : II} {T : TT} {Q : QQ} {F S n : Nat} {cd : Nat → Nat × Int32}
theorem nI_m1 {g : Nat} (h : g < 2 ^ 31) : nI g ≠ -1 := fun e => nI_pos h (by rw [e]; decide)
def wrV (B : II) (f : Nat) (a : Int32 × Int32) : Int32 × Int32 := if B 29 (16 + f) ≤ a.2 then a else (nI f, B 29 (16 + f))
def pkR (j : Nat) (a : Int32 × Int32) : Int32 := if j = 0 then a.1 else a.2
theorem l_xweariest (hC : Core B F S n cd) {j : Nat} (hj : j ≤ 1) : ∀ (d f : Nat) (a : Int32 × Int32), f + d = F → Q (.inl (some (.int (pkR j (rep (wrV B) d f a))))) B T → t_X_weariest_12 E B T Q (nI j) a.1 a.2 (nI f)
  | 0, f, a, hf, hq => by
    have h8 := hC.F8
    unfold t_X_weariest_12 t_X_weariest_37
    rw [hC.1.1]
    refine bq_t (nI_le (by omega) (by omega)) ?_
    match j, hj with
    | 0, _ => exact bq_t rfl hq
    | 1, _ => exact bq_f (by decide) hq
  | d + 1, f, a, hf, hq => by
    have h8 := hC.F8
    unfold t_X_weariest_12 t_X_weariest_30
    rw [hC.1.1]
    refine bq_f (nI_ge (by omega) (by omega)) ?_
    refine q_tired hC (ro.refl B) (by omega) ?_
    rw [nI_1]
    rw [rep] at hq
    refine ⟨fun q => ?_, fun q => ?_⟩
    · have e : wrV B f a = a := if_pos q
      rw [e] at hq
      exact s_X_weariest_12 (l_xweariest hC hj d (f + 1) a (by omega) hq)
    · have e : wrV B f a = (nI f, B 29 (16 + f)) := if_neg q
      rw [e] at hq
      refine q_tired hC (ro.refl B) (by omega) ?_
      exact s_X_weariest_12 (l_xweariest hC hj d (f + 1) (nI f, B 29 (16 + f)) (by omega) hq)
theorem l_mweariest (hC : Core B F S n cd) (h : ro B I) {j : Nat} (hj : j ≤ 1) : ∀ (d f : Nat) (a : Int32 × Int32), f + d = F → (a = (-1, -1) ∨ ∃ g, g < F ∧ a = (nI g, B 29 (16 + g))) → Q (.inl (some (.int (pkR j (rep (wrV B) d f a))))) I T → t_M_weariest_22 E I T Q (nI j) a.1 (nI f)
  | 0, f, a, hf, ha, hq => by
    have h8 := hC.F8
    have e508 : I 508 = B 508 := h.cell (c := 508) (by decide)
    unfold t_M_weariest_22 t_M_weariest_55 t_M_weariest_63
    rw [(hC.2.1.ro h).1]
    refine bq_t (nI_le (by omega) (by omega)) ?_
    match j, hj with
    | 0, _ => exact bq_t rfl hq
    | 1, _ =>
      refine bq_f (by decide) ?_
      rcases ha with rfl | ⟨g, hg, rfl⟩
      · exact bq_t rfl hq
      · refine bq_f (nI_m1 (by omega)) ?_
        rw [z16]
        refine ⟨gix (by omega) (by omega), ?_⟩
        rw [nI_clamp (by omega), e508, hC.q (by omega)]
        exact hq
  | d + 1, f, a, hf, ha, hq => by
    have h8 := hC.F8
    have e508 : I 508 = B 508 := h.cell (c := 508) (by decide)
    unfold t_M_weariest_22 t_M_weariest_44 t_M_weariest_47
    rw [(hC.2.1.ro h).1]
    refine bq_f (nI_ge (by omega) (by omega)) ?_
    rw [rep] at hq
    rw [nI_1]
    rcases ha with rfl | ⟨g, hg, rfl⟩
    · refine bq_t rfl ?_
      obtain ⟨t, ht, et⟩ := hC.rv.2.2.2.1 f (by omega)
      have e : wrV B f (-1, -1) = (nI f, B 29 (16 + f)) := if_neg (by
        show ¬ B 29 (16 + f) ≤ -1
        rw [et, fa_le, nI_toInt (by omega)]
        have : (-1 : Int32).toInt = -1 := rfl
        omega)
      rw [e] at hq
      exact s_M_weariest_22 (l_mweariest hC h hj d (f + 1) (nI f, B 29 (16 + f)) (by omega) (Or.inr ⟨f, by omega, rfl⟩) hq)
    · refine bq_f (nI_m1 (by omega)) ?_
      rw [z16, z16]
      refine ⟨gix (by omega) (by omega), gix (by omega) (by omega), ?_⟩
      rw [nI_clamp (show 16 + f < 2 ^ 31 by omega), nI_clamp (show 16 + g < 2 ^ 31 by omega), e508, hC.q (by omega), hC.q (by omega)]
      refine ⟨fun q => ?_, fun q => ?_⟩
      · have e : wrV B f (nI g, B 29 (16 + g)) = (nI g, B 29 (16 + g)) := if_pos q
        rw [e] at hq
        exact s_M_weariest_22 (l_mweariest hC h hj d (f + 1) (nI g, B 29 (16 + g)) (by omega) (Or.inr ⟨g, hg, rfl⟩) hq)
      · have e : wrV B f (nI g, B 29 (16 + g)) = (nI f, B 29 (16 + f)) := if_neg q
        rw [e] at hq
        exact s_M_weariest_22 (l_mweariest hC h hj d (f + 1) (nI f, B 29 (16 + f)) (by omega) (Or.inr ⟨f, by omega, rfl⟩) hq)
theorem xq_weariest (hA : InvA B F S n cd) (hT : TG T) {j : Nat} (hj : j ≤ 1) (hq : ∀ J, ro B J → Q (.inl (some (.int (pkR j (rep (wrV B) F 0 (-1, -1)))))) J T) : ev E 281 0 [some (.ref 0), some (.int (nI j)), none, none, none] [] B T Q := by
  have hC := hA.1
  have h8 := hC.F8
  have h6 := hC.S6
  refine s_X_weariest_0 ?_
  unfold t_X_weariest_0
  refine q_within _ _ _ ?_
  rw [show wI (nI j) 0 1 = 1 from wI_n (b := 1) hj (by decide)]
  refine q_need hT _ (fun _ => ?_) (fun q => absurd q (by decide))
  exact l_xweariest hC hj F 0 (-1, -1) (by omega) (hq B (ro.refl B))
theorem mq_weariest (hC : Core B F S n cd) (h : ro B I) {j : Nat} (hj : j ≤ 1) (hq : ∀ J, ro B J → J 46 0 = 0 → Q (.inl (some (.int (pkR j (rep (wrV B) F 0 (-1, -1)))))) J T) : ev E 282 0 [some (.ref 46), some (.int (nI j)), none, none] [] I T Q := by
  have h8 := hC.F8
  have h6 := hC.S6
  have hI : ro B (m_up I 46 0 0) := h.trans (ro_thrown I 0)
  have h0 : (m_up I 46 0 0) 46 0 = 0 := rfl
  refine s_M_weariest_0 ?_
  unfold t_M_weariest_0 t_M_weariest_12
  refine q_in _ _ _ ?_
  rw [show wI (nI j) 0 1 = 1 from wI_n (b := 1) hj (by decide)]
  refine bq_f (by decide) ?_
  refine qm_bad0 rfl _ _ ?_
  refine bq_t rfl ?_
  exact l_mweariest hC hI hj F 0 (-1, -1) (by omega) (Or.inl rfl) (hq _ hI h0)
theorem xq_weariest_b0 (hA : InvA B F S n cd) (hT : TG T) {a1 : Int32} (c : ¬ okW a1 0 1) (hq : Q (.inr 1) (m_up B 0 15 (B 0 15 + 1)) (TX T)) : ev E 281 0 [some (.ref 0), some (.int (a1)), none, none, none] [] B T Q := by
  refine s_X_weariest_0 ?_
  unfold t_X_weariest_0
  refine q_within _ _ _ ?_
  rw [wI_f c]
  exact q_need hT _ (fun q => absurd rfl q) (fun _ => hq)
theorem mq_weariest_b0 (hm : mN I F S) {a1 : Int32} (c : ¬ okW a1 0 1) (hq : ∀ v J, ro (m_up I 48 1 (I 48 1 + 1)) J → J 46 0 = 1 → Q (.inl (some (.int v))) J T) : ev E 282 0 [some (.ref 46), some (.int (a1)), none, none] [] I T Q := by
  have hm2 : mN (m_up I 46 0 0) F S := hm
  refine s_M_weariest_0 ?_
  unfold t_M_weariest_0 t_M_weariest_12
  refine q_in _ _ _ ?_
  rw [wI_f c]
  refine bq_t rfl ?_
  refine qm_bad1 (j := 1) rfl (by decide) (by decide) ?_
  refine bq_f (by decide) ?_
  exact hq _ _ (ro_bad I _ _) rfl

theorem o_weariest : op_ok Inv E t_W_main_1006 := by
  intro I T Q i m hI hT hm hi hL hn
  have hG := TI_g hT hm
  obtain ⟨F, S, n, cd, hA⟩ := hI
  unfold t_W_main_1006
  generalize E.2.2 (nI i + 1).toNatClampNeg = a1
  refine ⟨gsc 1 hi hL (by decide), ?_⟩
  refine s_W_weariest_0 ?_
  unfold t_W_weariest_0 t_W_weariest_9
  by_cases c0 : okW a1 0 1
  · obtain ⟨j, hj, rfl⟩ := okW_nat (k := 1) (by decide) c0
    refine xq_weariest hA hG hj (fun J hJ => ?_)
    exact ⟨gsc 1 hi hL (by decide), mq_weariest hA.1 hJ hj (fun K hK h0 => fin_ok h0 (fun _ => rfl) (hn K _ ⟨F, S, n, cd, hA.ro hK⟩ (TI_s hT)))⟩
  · refine xq_weariest_b0 hA hG  c0 ?_
    refine ⟨rfl, ?_⟩
    exact ⟨gsc 1 hi hL (by decide), mq_weariest_b0 (F := F) (S := S) (show mN (m_up I 0 15 (I 0 15 + 1)) F S from hA.1.2.1)  c0 (fun v J hJ h0 => fin_ok h0 (fun q => absurd q (by decide)) (hn J _ (Inv_thr (x := 1) (by decide) ⟨F, S, n, cd, hA⟩ rfl (ro.refl _) hJ) (TI_x hT)))⟩
def lsV (B : II) (f : Nat) (a : Int32 × Int32) : Int32 × Int32 := if B 29 f = -1 then a else if a.1 = -1 then (nI f, B 29 (8 + f)) else if a.2 ≤ B 29 (8 + f) then a else (nI f, B 29 (8 + f))
theorem l_xloosest (hC : Core B F S n cd) {j : Nat} (hj : j ≤ 1) : ∀ (d f : Nat) (a : Int32 × Int32), f + d = F → Q (.inl (some (.int (pkR j (rep (lsV B) d f a))))) B T → t_X_loosest_12 E B T Q (nI j) a.1 a.2 (nI f)
  | 0, f, a, hf, hq => by
    have h8 := hC.F8
    unfold t_X_loosest_12 t_X_loosest_45
    rw [hC.1.1]
    refine bq_t (nI_le (by omega) (by omega)) ?_
    match j, hj with
    | 0, _ => exact bq_t rfl hq
    | 1, _ => exact bq_f (by decide) hq
  | d + 1, f, a, hf, hq => by
    have h8 := hC.F8
    unfold t_X_loosest_12 t_X_loosest_31 t_X_loosest_38
    rw [hC.1.1]
    refine bq_f (nI_ge (by omega) (by omega)) ?_
    refine q_has hC (ro.refl B) (by omega) ?_
    rw [nI_1]
    rw [rep] at hq
    unfold lsV at hq
    by_cases c : B 29 f = -1
    · rw [if_pos c] at hq ⊢
      exact bq_t rfl (s_X_loosest_12 (l_xloosest hC hj d (f + 1) a (by omega) hq))
    · rw [if_neg c] at hq ⊢
      refine bq_f (by decide) ⟨fun q => ?_, fun q => ?_⟩
      · rw [if_pos q] at hq
        refine q_tight hC (ro.refl B) (by omega) ?_
        exact s_X_loosest_12 (l_xloosest hC hj d (f + 1) (nI f, B 29 (8 + f)) (by omega) hq)
      · rw [if_neg q] at hq
        refine q_tight hC (ro.refl B) (by omega) ?_
        refine ⟨fun q2 => ?_, fun q2 => ?_⟩
        · rw [if_pos q2] at hq
          exact s_X_loosest_12 (l_xloosest hC hj d (f + 1) a (by omega) hq)
        · rw [if_neg q2] at hq
          refine q_tight hC (ro.refl B) (by omega) ?_
          exact s_X_loosest_12 (l_xloosest hC hj d (f + 1) (nI f, B 29 (8 + f)) (by omega) hq)
theorem l_mloosest (hC : Core B F S n cd) (h : ro B I) {j : Nat} (hj : j ≤ 1) : ∀ (d f : Nat) (a : Int32 × Int32), f + d = F → (a = (-1, -1) ∨ ∃ g, g < F ∧ a = (nI g, B 29 (8 + g))) → Q (.inl (some (.int (pkR j (rep (lsV B) d f a))))) I T → t_M_loosest_22 E I T Q (nI j) a.1 (nI f)
  | 0, f, a, hf, ha, hq => by
    have h8 := hC.F8
    have e508 : I 508 = B 508 := h.cell (c := 508) (by decide)
    unfold t_M_loosest_22 t_M_loosest_63 t_M_loosest_71
    rw [(hC.2.1.ro h).1]
    refine bq_t (nI_le (by omega) (by omega)) ?_
    match j, hj with
    | 0, _ => exact bq_t rfl hq
    | 1, _ =>
      refine bq_f (by decide) ?_
      rcases ha with rfl | ⟨g, hg, rfl⟩
      · exact bq_t rfl hq
      · refine bq_f (nI_m1 (by omega)) ?_
        rw [z8]
        refine ⟨gix (by omega) (by omega), ?_⟩
        rw [nI_clamp (by omega), e508, hC.q (by omega)]
        exact hq
  | d + 1, f, a, hf, ha, hq => by
    have h8 := hC.F8
    have e508 : I 508 = B 508 := h.cell (c := 508) (by decide)
    unfold t_M_loosest_22 t_M_loosest_52 t_M_loosest_54 t_M_loosest_55
    rw [(hC.2.1.ro h).1]
    refine bq_f (nI_ge (by omega) (by omega)) ?_
    rw [rep] at hq
    unfold lsV at hq
    rw [nI_1, z0]
    refine ⟨gix (by omega) (by omega), ?_⟩
    rw [nI_clamp (show f < 2 ^ 31 by omega), e508, hC.q (by omega)]
    refine ⟨fun c => ?_, fun c => ?_⟩
    · rw [if_pos c] at hq
      exact s_M_loosest_22 (l_mloosest hC h hj d (f + 1) a (by omega) ha hq)
    · rw [if_neg c] at hq
      rcases ha with rfl | ⟨g, hg, rfl⟩
      · rw [if_pos rfl] at hq
        exact bq_t rfl (s_M_loosest_22 (l_mloosest hC h hj d (f + 1) (nI f, B 29 (8 + f)) (by omega) (Or.inr ⟨f, by omega, rfl⟩) hq))
      · rw [if_neg (nI_m1 (by omega))] at hq
        refine bq_f (nI_m1 (by omega)) ?_
        rw [z8, z8]
        refine ⟨gix (by omega) (by omega), gix (by omega) (by omega), ?_⟩
        rw [nI_clamp (show 8 + f < 2 ^ 31 by omega), nI_clamp (show 8 + g < 2 ^ 31 by omega), hC.q (by omega), hC.q (by omega)]
        refine ⟨fun q => ?_, fun q => ?_⟩
        · rw [if_pos q] at hq
          exact s_M_loosest_22 (l_mloosest hC h hj d (f + 1) (nI g, B 29 (8 + g)) (by omega) (Or.inr ⟨g, hg, rfl⟩) hq)
        · rw [if_neg q] at hq
          exact s_M_loosest_22 (l_mloosest hC h hj d (f + 1) (nI f, B 29 (8 + f)) (by omega) (Or.inr ⟨f, by omega, rfl⟩) hq)
theorem xq_loosest (hA : InvA B F S n cd) (hT : TG T) {j : Nat} (hj : j ≤ 1) (hq : ∀ J, ro B J → Q (.inl (some (.int (pkR j (rep (lsV B) F 0 (-1, -1)))))) J T) : ev E 284 0 [some (.ref 0), some (.int (nI j)), none, none, none] [] B T Q := by
  have hC := hA.1
  have h8 := hC.F8
  have h6 := hC.S6
  refine s_X_loosest_0 ?_
  unfold t_X_loosest_0
  refine q_within _ _ _ ?_
  rw [show wI (nI j) 0 1 = 1 from wI_n (b := 1) hj (by decide)]
  refine q_need hT _ (fun _ => ?_) (fun q => absurd q (by decide))
  exact l_xloosest hC hj F 0 (-1, -1) (by omega) (hq B (ro.refl B))
theorem mq_loosest (hC : Core B F S n cd) (h : ro B I) {j : Nat} (hj : j ≤ 1) (hq : ∀ J, ro B J → J 46 0 = 0 → Q (.inl (some (.int (pkR j (rep (lsV B) F 0 (-1, -1)))))) J T) : ev E 285 0 [some (.ref 46), some (.int (nI j)), none, none] [] I T Q := by
  have h8 := hC.F8
  have h6 := hC.S6
  have hI : ro B (m_up I 46 0 0) := h.trans (ro_thrown I 0)
  have h0 : (m_up I 46 0 0) 46 0 = 0 := rfl
  refine s_M_loosest_0 ?_
  unfold t_M_loosest_0 t_M_loosest_12
  refine q_in _ _ _ ?_
  rw [show wI (nI j) 0 1 = 1 from wI_n (b := 1) hj (by decide)]
  refine bq_f (by decide) ?_
  refine qm_bad0 rfl _ _ ?_
  refine bq_t rfl ?_
  exact l_mloosest hC hI hj F 0 (-1, -1) (by omega) (Or.inl rfl) (hq _ hI h0)
theorem xq_loosest_b0 (hA : InvA B F S n cd) (hT : TG T) {a1 : Int32} (c : ¬ okW a1 0 1) (hq : Q (.inr 1) (m_up B 0 15 (B 0 15 + 1)) (TX T)) : ev E 284 0 [some (.ref 0), some (.int (a1)), none, none, none] [] B T Q := by
  refine s_X_loosest_0 ?_
  unfold t_X_loosest_0
  refine q_within _ _ _ ?_
  rw [wI_f c]
  exact q_need hT _ (fun q => absurd rfl q) (fun _ => hq)
theorem mq_loosest_b0 (hm : mN I F S) {a1 : Int32} (c : ¬ okW a1 0 1) (hq : ∀ v J, ro (m_up I 48 1 (I 48 1 + 1)) J → J 46 0 = 1 → Q (.inl (some (.int v))) J T) : ev E 285 0 [some (.ref 46), some (.int (a1)), none, none] [] I T Q := by
  have hm2 : mN (m_up I 46 0 0) F S := hm
  refine s_M_loosest_0 ?_
  unfold t_M_loosest_0 t_M_loosest_12
  refine q_in _ _ _ ?_
  rw [wI_f c]
  refine bq_t rfl ?_
  refine qm_bad1 (j := 1) rfl (by decide) (by decide) ?_
  refine bq_f (by decide) ?_
  exact hq _ _ (ro_bad I _ _) rfl

theorem o_loosest : op_ok Inv E t_W_main_1041 := by
  intro I T Q i m hI hT hm hi hL hn
  have hG := TI_g hT hm
  obtain ⟨F, S, n, cd, hA⟩ := hI
  unfold t_W_main_1041
  generalize E.2.2 (nI i + 1).toNatClampNeg = a1
  refine ⟨gsc 1 hi hL (by decide), ?_⟩
  refine s_W_loosest_0 ?_
  unfold t_W_loosest_0 t_W_loosest_9
  by_cases c0 : okW a1 0 1
  · obtain ⟨j, hj, rfl⟩ := okW_nat (k := 1) (by decide) c0
    refine xq_loosest hA hG hj (fun J hJ => ?_)
    exact ⟨gsc 1 hi hL (by decide), mq_loosest hA.1 hJ hj (fun K hK h0 => fin_ok h0 (fun _ => rfl) (hn K _ ⟨F, S, n, cd, hA.ro hK⟩ (TI_s hT)))⟩
  · refine xq_loosest_b0 hA hG  c0 ?_
    refine ⟨rfl, ?_⟩
    exact ⟨gsc 1 hi hL (by decide), mq_loosest_b0 (F := F) (S := S) (show mN (m_up I 0 15 (I 0 15 + 1)) F S from hA.1.2.1)  c0 (fun v J hJ h0 => fin_ok h0 (fun q => absurd q (by decide)) (hn J _ (Inv_thr (x := 1) (by decide) ⟨F, S, n, cd, hA⟩ rfl (ro.refl _) hJ) (TI_x hT)))⟩
theorem mx0_sub {a b : Nat} (ha : a < 2 ^ 30) (hb : b < 2 ^ 30) : mx0 (nI a - nI b) = nI (a - b) := by
  have e0 : (0 : Int32).toInt = 0 := rfl
  unfold mx0
  by_cases h : b ≤ a
  · rw [pk_sub h, if_pos (nI_pos' (by omega))]
  · rw [if_neg (by rw [fa_le, e0, pk_sub_toInt ha hb]; omega), show a - b = 0 by omega]
    rfl
theorem rsM_lo {calm : Nat → Int32} {j : Nat} (hj : j < 16) : ∀ (d g : Nat) (q : Nat → Int32), rep (rsM calm) d g q j = q j
  | 0, _, _ => rfl
  | d + 1, g, q => by
    rw [rep, rsM_lo hj d (g + 1)]
    exact upd_ne (by omega)
theorem rsM_at {calm : Nat → Int32} {f : Nat} (hf : f < 8) : ∀ (d g : Nat) (q : Nat → Int32), g + d ≤ 8 → rep (rsM calm) d g q (16 + f) = if g ≤ f ∧ f < g + d then mx0 (q (16 + f) - easeC q calm f) else q (16 + f)
  | 0, g, q, _ => by rw [if_neg (by omega)]; rfl
  | d + 1, g, q, hg => by
    rw [rep, rsM_at hf d (g + 1) _ (by omega)]
    have e1 : rsM calm g q f = q f := upd_ne (by omega)
    have e3 : easeC (rsM calm g q) calm f = easeC q calm f := by unfold easeC; rw [e1]
    by_cases e : f = g
    · subst e
      rw [if_neg (by omega), if_pos (by omega)]
      exact upd_at _ _ _
    · have e2 : rsM calm g q (16 + f) = q (16 + f) := upd_ne (by omega)
      rw [e3, e2]
      by_cases c : g + 1 ≤ f ∧ f < g + 1 + d
      · rw [if_pos c, if_pos (by omega)]
      · rw [if_neg c, if_neg (by omega)]
theorem restM_lo {calm : Nat → Int32} {F : Nat} (hF : F ≤ 8) (q : Nat → Int32) {j : Nat} (hj : j < 16) : restM calm F q j = q j := by
  unfold restM
  rw [upd_ne (by omega), rsM_lo hj]
theorem restM_at {calm : Nat → Int32} {F : Nat} (hF : F ≤ 8) (q : Nat → Int32) {f : Nat} (hf : f < F) : restM calm F q (16 + f) = mx0 (q (16 + f) - easeC q calm f) := by
  unfold restM
  rw [upd_ne (by omega), rsM_at (by omega) F 0 q (by omega), if_pos (by omega)]
theorem ease_nat (hC : Core B F S n cd) {f : Nat} (hf : f < F) : ∃ e, e ≤ 12 ∧ easeC (B 29) (B 5) f = nI e := by
  unfold easeC
  by_cases c : B 29 f = -1
  · rw [if_pos c]
    obtain ⟨-, -, -, -, ⟨m, hm, e⟩, -⟩ := hC.fe hf
    exact ⟨3 + m, by omega, by rw [e]; exact nI_add 3 m⟩
  · rw [if_neg c]
    exact ⟨1, by omega, rfl⟩
theorem l_mrested (hC : Core B F S n cd) {f : Nat} (hf : f < F) {k t e : Nat} (hk : k ≤ 99) (ht : t ≤ 999) (he : e ≤ 12) (he2 : easeC (B 29) (B 5) f = nI e) : ∀ (d i : Nat) (J : II), ro B J → J 46 0 = 0 → J 509 f = B 29 f → J 509 (16 + f) = nI (t - i * e) → i + d = k → (∀ K, ro B K → K 46 0 = 0 → Q (.inl (some (.int (nI (t - k * e))))) K T) → t_M_rested_37 E J T Q (nI f) (nI k) (nI i)
  | 0, i, J, h, h0, hp, hv, hi, hq => by
    have h8 := hC.F8
    unfold t_M_rested_37
    rw [z16, nI_clamp (by omega), hv, show i = k by omega]
    exact bq_t (nI_le (by omega) (by omega)) ⟨⟨nI_pos (by omega), by omega⟩, hq J h h0⟩
  | d + 1, i, J, h, h0, hp, hv, hi, hq => by
    have h8 := hC.F8
    unfold t_M_rested_37
    refine bq_f (nI_ge (by omega) (by omega)) ?_
    refine p_rests_509 (hC.2.1.ro h) ?_
    rw [nI_1]
    refine s_M_rested_37 (l_mrested hC hf hk ht he he2 d (i + 1) _ (h.trans (ro_row J (by decide) _)) h0 ?_ ?_ (by omega) hq)
    · show restM _ F (J 509) f = _
      rw [restM_lo h8 _ (by omega), hp]
    · show restM _ F (J 509) (16 + f) = _
      rw [restM_at h8 _ hf]
      have ee : easeC (J 509) (fun f => J (61 + f) 1) f = nI e := by
        rw [← he2]
        show (if J 509 f = -1 then 3 + J (61 + f) 1 else 1) = easeC (B 29) (B 5) f
        unfold easeC
        rw [hp, h.cell (c := 61 + f) (scr_rng (a := 61) (b := 69) (by omega) (by omega) (by decide)), (hC.fe hf).2.1]
      rw [ee, hv, mx0_sub (by omega) (by omega), show (i + 1) * e = i * e + e from Nat.succ_mul i e]
      congr 1
      omega
theorem xq_rested (hA : InvA B F S n cd) (hT : TG T) {f : Nat} (hf : f < F) {k : Nat} (hk : k ≤ 99) (hq : ∀ J, ro B J → Q (.inl (some (.int (mx0 (B 29 (16 + f) - nI k * easeC (B 29) (B 5) f))))) J T) : ev E 297 0 [some (.ref 0), some (.int (nI f)), some (.int (nI k))] [] B T Q := by
  have hC := hA.1
  have h8 := hC.F8
  have h6 := hC.S6
  refine s_X_rested_0 ?_
  unfold t_X_rested_0
  refine q_needF hA.1.1 hT _ (fun _ => ?_) (fun q => absurd ⟨f, hf, rfl⟩ q)
  refine q_within _ _ _ ?_
  rw [show wI (nI k) 0 99 = 1 from wI_n (b := 99) hk (by decide)]
  refine q_need hT _ (fun _ => ?_) (fun q => absurd q (by decide))
  refine q_tired hC (ro.refl B) hf ?_
  refine p_easeOf_28 hC.1 hf ?_
  have z := hq B (ro.refl B)
  rw [← p0_mx] at z
  exact z
theorem mq_rested (hC : Core B F S n cd) (h : ro B I) {f : Nat} (hf : f < F) {k : Nat} (hk : k ≤ 99) (hq : ∀ J, ro B J → J 46 0 = 0 → Q (.inl (some (.int (mx0 (B 29 (16 + f) - nI k * easeC (B 29) (B 5) f))))) J T) : ev E 298 0 [some (.ref 46), some (.int (nI f)), some (.int (nI k)), none] [] I T Q := by
  have h8 := hC.F8
  have h6 := hC.S6
  have hI : ro B (m_up I 46 0 0) := h.trans (ro_thrown I 0)
  have h0 : (m_up I 46 0 0) 46 0 = 0 := rfl
  refine s_M_rested_0 ?_
  unfold t_M_rested_0 t_M_rested_11 t_M_rested_24 t_M_rested_28
  refine qm_isFeeling (hC.2.1.ro hI) _ ?_
  rw [wI_t ((okW_lt (hC.2.1.ro hI).2.1).mpr ⟨f, hf, rfl⟩)]
  refine bq_f (by decide) ?_
  refine qm_bad0 rfl _ _ ?_
  refine bq_t rfl ?_
  refine q_in _ _ _ ?_
  rw [show wI (nI k) 0 99 = 1 from wI_n (b := 99) hk (by decide)]
  refine bq_f (by decide) ?_
  refine qm_bad0 rfl _ _ ?_
  refine bq_t rfl ?_
  obtain ⟨t, ht, et⟩ := hC.rv.2.2.2.1 f hf
  obtain ⟨e, he, ee⟩ := ease_nat hC hf
  have hke : k * e ≤ 99 * 12 := Nat.mul_le_mul hk he
  rw [et, ee, pk_mul, mx0_sub (by omega) (by omega)] at hq
  refine p_copies (fun r hr => ?_)
  have e508 : (m_up I 46 0 0) 508 = B 508 := hI.cell (c := 508) (by decide)
  refine l_mrested hC hf hk ht he ee k 0 _ (hI.trans (ro_row _ (by decide) r)) rfl ?_ ?_ (by omega) hq
  · show r f = _
    rw [hr f (by omega), e508, hC.q (by omega)]
  · show r (16 + f) = _
    rw [hr (16 + f) (by omega), e508, hC.q (by omega), et, Nat.zero_mul]
    rfl
theorem xq_rested_b0 (hA : InvA B F S n cd) (hT : TG T) {a1 : Int32} {a2 : Int32} (c : ¬ ∃ f, f < F ∧ a1 = nI f) (hq : Q (.inr 0) (m_up B 0 14 (B 0 14 + 1)) (TX T)) : ev E 297 0 [some (.ref 0), some (.int (a1)), some (.int (a2))] [] B T Q := by
  refine s_X_rested_0 ?_
  unfold t_X_rested_0
  exact q_needF hA.1.1 hT _ (fun q => absurd q c) (fun _ => hq)
theorem mq_rested_b0 (hm : mN I F S) {a1 : Int32} {a2 : Int32} (c : ¬ ∃ f, f < F ∧ a1 = nI f) (hq : ∀ v J, ro (m_up I 48 0 (I 48 0 + 1)) J → J 46 0 = 1 → Q (.inl (some (.int v))) J T) : ev E 298 0 [some (.ref 46), some (.int (a1)), some (.int (a2)), none] [] I T Q := by
  have hm2 : mN (m_up I 46 0 0) F S := hm
  refine s_M_rested_0 ?_
  unfold t_M_rested_0 t_M_rested_11 t_M_rested_24 t_M_rested_28
  refine qm_isFeeling hm2 _ ?_
  rw [wI_f (fun q => c ((okW_lt hm.2.1).mp q))]
  refine bq_t rfl ?_
  refine qm_bad1 (j := 0) rfl (by decide) (by decide) ?_
  refine bq_f (by decide) ?_
  exact hq _ _ (ro_bad I _ _) rfl
theorem xq_rested_b1 (hA : InvA B F S n cd) (hT : TG T) {f : Nat} (hf : f < F) {a2 : Int32} (c : ¬ okW a2 0 99) (hq : Q (.inr 1) (m_up B 0 15 (B 0 15 + 1)) (TX T)) : ev E 297 0 [some (.ref 0), some (.int (nI f)), some (.int (a2))] [] B T Q := by
  refine s_X_rested_0 ?_
  unfold t_X_rested_0
  refine q_needF hA.1.1 hT _ (fun _ => ?_) (fun q => absurd ⟨f, hf, rfl⟩ q)
  refine q_within _ _ _ ?_
  rw [wI_f c]
  exact q_need hT _ (fun q => absurd rfl q) (fun _ => hq)
theorem mq_rested_b1 (hm : mN I F S) {f : Nat} (hf : f < F) {a2 : Int32} (c : ¬ okW a2 0 99) (hq : ∀ v J, ro (m_up I 48 1 (I 48 1 + 1)) J → J 46 0 = 2 → Q (.inl (some (.int v))) J T) : ev E 298 0 [some (.ref 46), some (.int (nI f)), some (.int (a2)), none] [] I T Q := by
  have hm2 : mN (m_up I 46 0 0) F S := hm
  refine s_M_rested_0 ?_
  unfold t_M_rested_0 t_M_rested_11 t_M_rested_24 t_M_rested_28
  refine qm_isFeeling (hm2) _ ?_
  rw [wI_t ((okW_lt (hm2).2.1).mpr ⟨f, hf, rfl⟩)]
  refine bq_f (by decide) ?_
  refine qm_bad0 rfl _ _ ?_
  refine bq_t rfl ?_
  refine q_in _ _ _ ?_
  rw [wI_f c]
  refine bq_t rfl ?_
  refine qm_bad1 (j := 1) rfl (by decide) (by decide) ?_
  refine bq_f (by decide) ?_
  exact hq _ _ (ro_bad I _ _) rfl

theorem o_rested : op_ok Inv E t_W_main_1160 := by
  intro I T Q i m hI hT hm hi hL hn
  have hG := TI_g hT hm
  obtain ⟨F, S, n, cd, hA⟩ := hI
  unfold t_W_main_1160
  generalize E.2.2 (nI i + 1).toNatClampNeg = a1
  generalize E.2.2 (nI i + 2).toNatClampNeg = a2
  refine ⟨gsc 1 hi hL (by decide), gsc 2 hi hL (by decide), ?_⟩
  refine s_W_rested_0 ?_
  unfold t_W_rested_0 t_W_rested_13 t_W_rested_10
  by_cases c0 : ∃ f, f < F ∧ a1 = nI f
  · obtain ⟨f, hf, rfl⟩ := c0
    by_cases c1 : okW a2 0 99
    · obtain ⟨k, hk, rfl⟩ := okW_nat (k := 99) (by decide) c1
      refine xq_rested hA hG hf hk (fun J hJ => ?_)
      exact ⟨gsc 1 hi hL (by decide), gsc 2 hi hL (by decide), mq_rested hA.1 hJ hf hk (fun K hK h0 => fin_ok h0 (fun _ => rfl) (hn K _ ⟨F, S, n, cd, hA.ro hK⟩ (TI_s hT)))⟩
    · refine xq_rested_b1 hA hG hf c1 ?_
      refine Or.inr ⟨rfl, ?_⟩
      exact ⟨gsc 1 hi hL (by decide), gsc 2 hi hL (by decide), mq_rested_b1 (F := F) (S := S) (show mN (m_up I 0 15 (I 0 15 + 1)) F S from hA.1.2.1) hf c1 (fun v J hJ h0 => fin_ok h0 (fun q => absurd q (by decide)) (hn J _ (Inv_thr (x := 1) (by decide) ⟨F, S, n, cd, hA⟩ rfl (ro.refl _) hJ) (TI_x hT)))⟩
  · refine xq_rested_b0 hA hG  c0 ?_
    refine Or.inl ⟨rfl, ?_⟩
    exact ⟨gsc 1 hi hL (by decide), gsc 2 hi hL (by decide), mq_rested_b0 (F := F) (S := S) (show mN (m_up I 0 14 (I 0 14 + 1)) F S from hA.1.2.1)  c0 (fun v J hJ h0 => fin_ok h0 (fun q => absurd q (by decide)) (hn J _ (Inv_thr (x := 0) (by decide) ⟨F, S, n, cd, hA⟩ rfl (ro.refl _) hJ) (TI_x hT)))⟩
theorem xq_would (hA : InvA B F S n cd) (hT : TG T) {a1 a2 a3 a4 a5 a6 a7 a8 : Int32} (c : okW a1 1 20 ∧ okW a2 0 9 ∧ okW a3 0 9 ∧ okW a4 0 999 ∧ okW a5 0 3 ∧ okW a6 0 6 ∧ okW a7 0 4 ∧ okW a8 0 900) (hq : ∀ J, ro B J → Q (.inl (some (.int (lawF n cd (vf a1 a2 a3 a4 a5 a6 a7 a8))))) J T) : ev E 205 0 [some (.ref 0), some (.int a1), some (.int a2), some (.int a3), some (.int a4), some (.int a5), some (.int a6), some (.int a7), some (.int a8)] [] B T Q := by
  obtain ⟨c1, c2, c3, c4, c5, c6, c7, c8⟩ := c
  refine s_X_would_0 ?_
  unfold t_X_would_0 t_X_would_41 t_X_would_42
  refine q_within _ _ _ ?_
  rw [wI_t c1]
  refine bq_f (by decide) ?_
  refine q_within _ _ _ ?_
  rw [wI_t c2]
  refine bq_f (by decide) ?_
  refine q_within _ _ _ ?_
  rw [wI_t c3]
  refine bq_f (by decide) ?_
  refine q_within _ _ _ ?_
  rw [wI_t c4]
  refine bq_f (by decide) ?_
  refine q_isPlace _ ?_
  rw [wI_t c5]
  refine bq_f (by decide) ?_
  refine q_within _ _ _ ?_
  rw [wI_t c6]
  refine bq_f (by decide) ?_
  refine q_within _ _ _ ?_
  rw [wI_t c7]
  refine bq_f (by decide) ?_
  refine q_within _ _ _ ?_
  rw [wI_t c8]
  refine bq_f (by decide) ?_
  refine q_need hT _ (fun _ => ?_) (fun q => absurd q (by decide))
  refine s_Law_tellFeeling_0 ?_
  refine s_Law_tellRoad_0 ?_
  exact p_told hA.1.lr _ _ _ _ _ _ _ _ rfl (fun J hJ => hq J (hJ.ro sub_scc1))
theorem xq_would_b (hT : TG T) {a1 a2 a3 a4 a5 a6 a7 a8 : Int32} (c : ¬ (okW a1 1 20 ∧ okW a2 0 9 ∧ okW a3 0 9 ∧ okW a4 0 999 ∧ okW a5 0 3 ∧ okW a6 0 6 ∧ okW a7 0 4 ∧ okW a8 0 900)) (hq : Q (.inr 1) (m_up B 0 15 (B 0 15 + 1)) (TX T)) : ev E 205 0 [some (.ref 0), some (.int a1), some (.int a2), some (.int a3), some (.int a4), some (.int a5), some (.int a6), some (.int a7), some (.int a8)] [] B T Q := by
  refine s_X_would_0 ?_
  unfold t_X_would_0 t_X_would_41 t_X_would_42
  refine q_within _ _ _ ?_
  by_cases c1 : okW a1 1 20
  · rw [wI_t c1]
    refine bq_f (by decide) ?_
    refine q_within _ _ _ ?_
    by_cases c2 : okW a2 0 9
    · rw [wI_t c2]
      refine bq_f (by decide) ?_
      refine q_within _ _ _ ?_
      by_cases c3 : okW a3 0 9
      · rw [wI_t c3]
        refine bq_f (by decide) ?_
        refine q_within _ _ _ ?_
        by_cases c4 : okW a4 0 999
        · rw [wI_t c4]
          refine bq_f (by decide) ?_
          refine q_isPlace _ ?_
          by_cases c5 : okW a5 0 3
          · rw [wI_t c5]
            refine bq_f (by decide) ?_
            refine q_within _ _ _ ?_
            by_cases c6 : okW a6 0 6
            · rw [wI_t c6]
              refine bq_f (by decide) ?_
              refine q_within _ _ _ ?_
              by_cases c7 : okW a7 0 4
              · rw [wI_t c7]
                refine bq_f (by decide) ?_
                refine q_within _ _ _ ?_
                by_cases c8 : okW a8 0 900
                · rw [wI_t c8]
                  refine bq_f (by decide) ?_
                  exact absurd ⟨c1, c2, c3, c4, c5, c6, c7, c8⟩ c
                · rw [wI_f c8]
                  refine bq_t rfl ?_
                  exact q_need hT _ (fun q => absurd rfl q) (fun _ => hq)
              · rw [wI_f c7]
                refine bq_t rfl ?_
                exact q_need hT _ (fun q => absurd rfl q) (fun _ => hq)
            · rw [wI_f c6]
              refine bq_t rfl ?_
              exact q_need hT _ (fun q => absurd rfl q) (fun _ => hq)
          · rw [wI_f c5]
            refine bq_t rfl ?_
            exact q_need hT _ (fun q => absurd rfl q) (fun _ => hq)
        · rw [wI_f c4]
          refine bq_t rfl ?_
          exact q_need hT _ (fun q => absurd rfl q) (fun _ => hq)
      · rw [wI_f c3]
        refine bq_t rfl ?_
        exact q_need hT _ (fun q => absurd rfl q) (fun _ => hq)
    · rw [wI_f c2]
      refine bq_t rfl ?_
      exact q_need hT _ (fun q => absurd rfl q) (fun _ => hq)
  · rw [wI_f c1]
    refine bq_t rfl ?_
    exact q_need hT _ (fun q => absurd rfl q) (fun _ => hq)
theorem mq_would (hC : Core B F S n cd) (h : ro B I) {a1 a2 a3 a4 a5 a6 a7 a8 : Int32} (c : okW a1 1 20 ∧ okW a2 0 9 ∧ okW a3 0 9 ∧ okW a4 0 999 ∧ okW a5 0 3 ∧ okW a6 0 6 ∧ okW a7 0 4 ∧ okW a8 0 900) (hq : ∀ J, ro B J → J 46 0 = 0 → Q (.inl (some (.int (lawF n cd (vf a1 a2 a3 a4 a5 a6 a7 a8))))) J T) : ev E 206 0 [some (.ref 46), some (.int a1), some (.int a2), some (.int a3), some (.int a4), some (.int a5), some (.int a6), some (.int a7), some (.int a8)] [] I T Q := by
  obtain ⟨c1, c2, c3, c4, c5, c6, c7, c8⟩ := c
  have hI : ro B (m_up I 46 0 0) := h.trans (ro_thrown I 0)
  refine s_M_would_0 ?_
  unfold t_M_would_0 t_M_would_42 t_M_would_45
  refine q_in _ _ _ ?_
  rw [wI_t c1]
  refine bq_f (by decide) ?_
  refine q_in _ _ _ ?_
  rw [wI_t c2]
  refine bq_f (by decide) ?_
  refine q_in _ _ _ ?_
  rw [wI_t c3]
  refine bq_f (by decide) ?_
  refine q_in _ _ _ ?_
  rw [wI_t c4]
  refine bq_f (by decide) ?_
  refine qm_isPlace _ ?_
  rw [wI_t c5]
  refine bq_f (by decide) ?_
  refine q_in _ _ _ ?_
  rw [wI_t c6]
  refine bq_f (by decide) ?_
  refine q_in _ _ _ ?_
  rw [wI_t c7]
  refine bq_f (by decide) ?_
  refine q_in _ _ _ ?_
  rw [wI_t c8]
  refine bq_f (by decide) ?_
  refine qm_bad0 rfl _ _ ?_
  refine bq_t rfl ?_
  refine p_forceBy (hC.lr.ro hI) _ _ _ _ _ _ _ _ (fun J hJ => ?_)
  exact hq J (hI.trans (hJ.ro sub_scc3)) (by rw [hJ 46 (by decide)]; rfl)
theorem mq_would_b {a1 a2 a3 a4 a5 a6 a7 a8 : Int32} (c : ¬ (okW a1 1 20 ∧ okW a2 0 9 ∧ okW a3 0 9 ∧ okW a4 0 999 ∧ okW a5 0 3 ∧ okW a6 0 6 ∧ okW a7 0 4 ∧ okW a8 0 900)) (hq : ∀ v J, ro (m_up I 48 1 (I 48 1 + 1)) J → J 46 0 = 1 → Q (.inl (some (.int v))) J T) : ev E 206 0 [some (.ref 46), some (.int a1), some (.int a2), some (.int a3), some (.int a4), some (.int a5), some (.int a6), some (.int a7), some (.int a8)] [] I T Q := by
  refine s_M_would_0 ?_
  unfold t_M_would_0 t_M_would_42 t_M_would_45
  refine q_in _ _ _ ?_
  by_cases c1 : okW a1 1 20
  · rw [wI_t c1]
    refine bq_f (by decide) ?_
    refine q_in _ _ _ ?_
    by_cases c2 : okW a2 0 9
    · rw [wI_t c2]
      refine bq_f (by decide) ?_
      refine q_in _ _ _ ?_
      by_cases c3 : okW a3 0 9
      · rw [wI_t c3]
        refine bq_f (by decide) ?_
        refine q_in _ _ _ ?_
        by_cases c4 : okW a4 0 999
        · rw [wI_t c4]
          refine bq_f (by decide) ?_
          refine qm_isPlace _ ?_
          by_cases c5 : okW a5 0 3
          · rw [wI_t c5]
            refine bq_f (by decide) ?_
            refine q_in _ _ _ ?_
            by_cases c6 : okW a6 0 6
            · rw [wI_t c6]
              refine bq_f (by decide) ?_
              refine q_in _ _ _ ?_
              by_cases c7 : okW a7 0 4
              · rw [wI_t c7]
                refine bq_f (by decide) ?_
                refine q_in _ _ _ ?_
                by_cases c8 : okW a8 0 900
                · rw [wI_t c8]
                  refine bq_f (by decide) ?_
                  exact absurd ⟨c1, c2, c3, c4, c5, c6, c7, c8⟩ c
                · rw [wI_f c8]
                  refine bq_t rfl ?_
                  refine qm_bad1 (j := 1) rfl (by decide) (by decide) ?_
                  refine bq_f (by decide) ?_
                  exact hq _ _ (ro_bad I _ _) rfl
              · rw [wI_f c7]
                refine bq_t rfl ?_
                refine qm_bad1 (j := 1) rfl (by decide) (by decide) ?_
                refine bq_f (by decide) ?_
                exact hq _ _ (ro_bad I _ _) rfl
            · rw [wI_f c6]
              refine bq_t rfl ?_
              refine qm_bad1 (j := 1) rfl (by decide) (by decide) ?_
              refine bq_f (by decide) ?_
              exact hq _ _ (ro_bad I _ _) rfl
          · rw [wI_f c5]
            refine bq_t rfl ?_
            refine qm_bad1 (j := 1) rfl (by decide) (by decide) ?_
            refine bq_f (by decide) ?_
            exact hq _ _ (ro_bad I _ _) rfl
        · rw [wI_f c4]
          refine bq_t rfl ?_
          refine qm_bad1 (j := 1) rfl (by decide) (by decide) ?_
          refine bq_f (by decide) ?_
          exact hq _ _ (ro_bad I _ _) rfl
      · rw [wI_f c3]
        refine bq_t rfl ?_
        refine qm_bad1 (j := 1) rfl (by decide) (by decide) ?_
        refine bq_f (by decide) ?_
        exact hq _ _ (ro_bad I _ _) rfl
    · rw [wI_f c2]
      refine bq_t rfl ?_
      refine qm_bad1 (j := 1) rfl (by decide) (by decide) ?_
      refine bq_f (by decide) ?_
      exact hq _ _ (ro_bad I _ _) rfl
  · rw [wI_f c1]
    refine bq_t rfl ?_
    refine qm_bad1 (j := 1) rfl (by decide) (by decide) ?_
    refine bq_f (by decide) ?_
    exact hq _ _ (ro_bad I _ _) rfl
theorem o_would : op_ok Inv E t_W_main_441 := by
  intro I T Q i m hI hT hm hi hL hn
  have hG := TI_g hT hm
  obtain ⟨F, S, n, cd, hA⟩ := hI
  unfold t_W_main_441
  generalize E.2.2 (nI i + 1).toNatClampNeg = a1
  generalize E.2.2 (nI i + 2).toNatClampNeg = a2
  generalize E.2.2 (nI i + 3).toNatClampNeg = a3
  generalize E.2.2 (nI i + 4).toNatClampNeg = a4
  generalize E.2.2 (nI i + 5).toNatClampNeg = a5
  generalize E.2.2 (nI i + 6).toNatClampNeg = a6
  generalize E.2.2 (nI i + 7).toNatClampNeg = a7
  generalize E.2.2 (nI i + 8).toNatClampNeg = a8
  refine ⟨gsc 1 hi hL (by decide), gsc 2 hi hL (by decide), gsc 3 hi hL (by decide), gsc 4 hi hL (by decide), gsc 5 hi hL (by decide), gsc 6 hi hL (by decide), gsc 7 hi hL (by decide), gsc 8 hi hL (by decide), ?_⟩
  refine s_W_would_0 ?_
  unfold t_W_would_0 t_W_would_16
  by_cases c : okW a1 1 20 ∧ okW a2 0 9 ∧ okW a3 0 9 ∧ okW a4 0 999 ∧ okW a5 0 3 ∧ okW a6 0 6 ∧ okW a7 0 4 ∧ okW a8 0 900
  · refine xq_would hA hG c (fun J hJ => ?_)
    exact ⟨gsc 1 hi hL (by decide), gsc 2 hi hL (by decide), gsc 3 hi hL (by decide), gsc 4 hi hL (by decide), gsc 5 hi hL (by decide), gsc 6 hi hL (by decide), gsc 7 hi hL (by decide), gsc 8 hi hL (by decide), mq_would hA.1 hJ c (fun K hK h0 => fin_ok h0 (fun _ => rfl) (hn K _ ⟨F, S, n, cd, hA.ro hK⟩ (TI_s hT)))⟩
  · refine xq_would_b hG c ?_
    refine ⟨rfl, ?_⟩
    exact ⟨gsc 1 hi hL (by decide), gsc 2 hi hL (by decide), gsc 3 hi hL (by decide), gsc 4 hi hL (by decide), gsc 5 hi hL (by decide), gsc 6 hi hL (by decide), gsc 7 hi hL (by decide), gsc 8 hi hL (by decide), mq_would_b c (fun v J hJ h0 => fin_ok h0 (fun q => absurd q (by decide)) (hn J _ (Inv_thr (x := 1) (by decide) ⟨F, S, n, cd, hA⟩ rfl (ro.refl _) hJ) (TI_x hT)))⟩
end OPC
