/-! ===== span ===== -/
section SPN
variable {E : MEnv} {B I : II} {T : TT} {Q : QQ} {F S n : Nat} {cd : Nat → Nat × Int32} {r q : Nat → Int32}
def spT (B : II) (F S n : Nat) (cd : Nat → Nat × Int32) (sd : Int32) (days w i : Nat) : Int32 := ssn B F S n cd (nI w) days (sd + nI i) 28 - B 29 28
def spI (B : II) (F S n : Nat) (cd : Nat → Nat × Int32) (sd : Int32) (days w f i : Nat) : Int32 := if ssn B F S n cd (nI w) days (sd + nI i) f = -1 then 0 else 1
def spS (B : II) (F S n : Nat) (cd : Nat → Nat × Int32) (sd : Int32) (days w f i : Nat) (s : T3) : T3 := (if i = 0 then spT B F S n cd sd days w i else if spT B F S n cd sd days w i < s.1 then spT B F S n cd sd days w i else s.1, if s.2.1 < spT B F S n cd sd days w i then spT B F S n cd sd days w i else s.2.1, s.2.2 + spI B F S n cd sd days w f i)
theorem l_xspan (hC : Core B F S n cd) (sd : Int32) {days w f j many : Nat} (hd : days ≤ 96) (hf : f < F) (hj : j ≤ 2) (hm : many ≤ 20) : ∀ (d i : Nat) (s : T3) (I : II), ro B I → i + d = many → (∀ J, ro B J → Q (.inl (some (.int (thR j (rep (spS B F S n cd sd days w f) d i s))))) J T) → t_X_span_42 E I T Q sd (nI many) (nI days) (nI w) (nI j) (nI f) s.1 s.2.1 s.2.2 (nI i)
  | 0, i, s, I, h, hi, hq => by
    unfold t_X_span_42 t_X_span_90
    refine bq_t (nI_le (by omega) (by omega)) ?_
    have z := hq I h
    match j, hj with
    | 0, _ => exact bq_t rfl z
    | 1, _ => exact bq_f (by decide) (bq_t rfl z)
    | 2, _ => exact bq_f (by decide) (bq_f (by decide) z)
  | d + 1, i, s, I, h, hi, hq => by
    unfold t_X_span_42 t_X_span_62 t_X_span_76
    refine bq_f (nI_ge (by omega) (by omega)) ?_
    refine qs_play hC h hd _ (fun J hJ hr => ?_)
    refine qs_through hJ hr ?_
    rw [nI_1]
    rw [rep] at hq
    have next : ∀ y x, (if i = 0 then spT B F S n cd sd days w i else if spT B F S n cd sd days w i < s.1 then spT B F S n cd sd days w i else s.1) = y → spI B F S n cd sd days w f i = x → ev E 322 42 [some (.ref 0), some (.int sd), some (.int (nI many)), some (.int (nI days)), some (.int (nI w)), some (.int (nI j)), some (.int (nI f)), some (.int y), some (.int (if s.2.1 < spT B F S n cd sd days w i then spT B F S n cd sd days w i else s.2.1)), some (.int (s.2.2 + x)), some (.int (nI (i + 1))), none] [] J T Q := by
      intro y x hy hx
      have e : spS B F S n cd sd days w f i s = (y, if s.2.1 < spT B F S n cd sd days w i then spT B F S n cd sd days w i else s.2.1, s.2.2 + x) := by unfold spS; rw [hy, hx]
      rw [e] at hq
      exact s_X_span_42 (l_xspan hC sd hd hf hj hm d (i + 1) (y, if s.2.1 < spT B F S n cd sd days w i then spT B F S n cd sd days w i else s.2.1, s.2.2 + x) J hJ (by omega) hq)
    have fin : ∀ y, (if i = 0 then spT B F S n cd sd days w i else if spT B F S n cd sd days w i < s.1 then spT B F S n cd sd days w i else s.1) = y → ev E 108 0 [some (.ref 30), some (.int (nI f))] [] J T (KI (fun v1 I1 T1 => (v1 = 0 → (ev E 322 42 [some (.ref 0), some (.int sd), some (.int (nI many)), some (.int (nI days)), some (.int (nI w)), some (.int (nI j)), some (.int (nI f)), some (.int y), some (.int (if s.2.1 < spT B F S n cd sd days w i then spT B F S n cd sd days w i else s.2.1)), some (.int (s.2.2 + 0)), some (.int (nI (i + 1))), none] [] I1 T1 Q)) ∧ (¬ (v1 = 0) → (ev E 322 42 [some (.ref 0), some (.int sd), some (.int (nI many)), some (.int (nI days)), some (.int (nI w)), some (.int (nI j)), some (.int (nI f)), some (.int y), some (.int (if s.2.1 < spT B F S n cd sd days w i then spT B F S n cd sd days w i else s.2.1)), some (.int (s.2.2 + 1)), some (.int (nI (i + 1))), none] [] I1 T1 Q))) (fun x I1 T1 => Q (.inr x) I1 T1)) := by
      intro y hy
      refine ra_has hC hJ hr hf ?_
      by_cases c : ssn B F S n cd (nI w) days (sd + nI i) f = -1
      · rw [if_pos c]
        exact bq_t rfl (next y 0 hy (if_pos c))
      · rw [if_neg c]
        exact bq_f (by decide) (next y 1 hy (if_neg c))
    refine ⟨fun c => ?_, fun c => ?_⟩
    · have i0 : i = 0 := (nI_eq (a := i) (b := 0) (by omega) (by omega)).mp c
      exact fin _ (if_pos i0)
    · have i0 : i ≠ 0 := fun z => c (by rw [z]; rfl)
      exact fin _ (if_neg i0)
theorem mn_eq (a t : Int32) : (if t ≤ a then t else a) = if t < a then t else a := by
  by_cases c : t < a
  · rw [if_pos c, if_pos (fa_of_lt c).1]
  · rw [if_neg c]
    by_cases c2 : t ≤ a
    · rw [if_pos c2, fa_eq]
      rw [fa_lt] at c
      rw [fa_le] at c2
      omega
    · rw [if_neg c2]
theorem mx_eq (a t : Int32) : (if a ≤ t then t else a) = if a < t then t else a := by
  by_cases c : a < t
  · rw [if_pos c, if_pos (fa_of_lt c).1]
  · rw [if_neg c]
    by_cases c2 : a ≤ t
    · rw [if_pos c2, fa_eq]
      rw [fa_lt] at c
      rw [fa_le] at c2
      omega
    · rw [if_neg c2]
theorem l_mspan (hC : Core B F S n cd) (sd : Int32) {days w f j many : Nat} (hd : days ≤ 96) (hf : f < F) (hj : j ≤ 2) (hm : many ≤ 20) (hm1 : 1 ≤ many) : ∀ (d i : Nat) (s : T3) (I : II), ro B I → I 46 0 = 0 → i + d = many → (i ≠ 0 → ∃ k, k ≤ 96 ∧ s.1 = nI k) → (∀ J, ro B J → J 46 0 = 0 → Q (.inl (some (.int (thR j (rep (spS B F S n cd sd days w f) d i s))))) J T) → t_M_span_39 E I T Q sd (nI many) (nI days) (nI w) (nI j) (nI f) (if i = 0 then -1 else s.1) s.2.1 s.2.2 (nI i)
  | 0, i, s, I, h, h0, hi, hk, hq => by
    unfold t_M_span_39 t_M_span_98
    refine bq_t (nI_le (by omega) (by omega)) ?_
    have z := hq I h h0
    rw [if_neg (by omega)]
    match j, hj with
    | 0, _ => exact bq_t rfl z
    | 1, _ => exact bq_f (by decide) (bq_t rfl z)
    | 2, _ => exact bq_f (by decide) (bq_f (by decide) z)
  | d + 1, i, s, I, h, h0, hi, hk, hq => by
    have h8 := hC.F8
    unfold t_M_span_39 t_M_span_67 t_M_span_84
    refine bq_f (nI_ge (by omega) (by omega)) ?_
    refine qs_mplay hC h h0 hd _ (fun J hJ j0 hR => ?_)
    have e508 : J 508 = B 508 := hJ.cell (c := 508) (by decide)
    have et : J 509 26 - J 508 26 = spT B F S n cd sd days w i := by
      rw [hR.2.1, e508, hC.2.2.2.2.2.2.1.2.1]; rfl
    obtain ⟨-, k, hk1, hk2⟩ := ssn_k hC (nI w) days (sd + nI i)
    show (_ → _) ∧ (_ → _)
    rw [et, nI_1, z0]
    rw [rep] at hq
    have hk3 : spT B F S n cd sd days w i = nI k := hk2
    have next : ∀ y x, (if i = 0 then spT B F S n cd sd days w i else if spT B F S n cd sd days w i < s.1 then spT B F S n cd sd days w i else s.1) = y → spI B F S n cd sd days w f i = x → ev E 323 39 [some (.ref 46), some (.int sd), some (.int (nI many)), some (.int (nI days)), some (.int (nI w)), some (.int (nI j)), some (.int (nI f)), some (.int y), some (.int (if s.2.1 < spT B F S n cd sd days w i then spT B F S n cd sd days w i else s.2.1)), some (.int (s.2.2 + x)), some (.int (nI (i + 1))), none] [] J T Q := by
      intro y x hy hx
      have e : spS B F S n cd sd days w f i s = (y, if s.2.1 < spT B F S n cd sd days w i then spT B F S n cd sd days w i else s.2.1, s.2.2 + x) := by unfold spS; rw [hy, hx]
      rw [e] at hq
      have hr := l_mspan hC sd hd hf hj hm hm1 d (i + 1) (y, if s.2.1 < spT B F S n cd sd days w i then spT B F S n cd sd days w i else s.2.1, s.2.2 + x) J hJ j0 (by omega) (fun _ => by
        show ∃ k, k ≤ 96 ∧ y = nI k
        rw [← hy]
        by_cases i0 : i = 0
        · rw [if_pos i0]; exact ⟨k, by omega, hk3⟩
        · rw [if_neg i0]
          split
          · exact ⟨k, by omega, hk3⟩
          · exact hk i0) hq
      rw [if_neg (by omega)] at hr
      exact s_M_span_39 hr
    have fin : ∀ y, (if i = 0 then spT B F S n cd sd days w i else if spT B F S n cd sd days w i < s.1 then spT B F S n cd sd days w i else s.1) = y → ev E 163 0 [some (.int s.2.1), some (.int (spT B F S n cd sd days w i))] [] J T (KI (fun v1 I1 T1 => (¬ nI f < 0 ∧ (nI f).toNatClampNeg < 29) ∧ (((I1 509 (nI f).toNatClampNeg) = (-1) → (ev E 323 39 [some (.ref 46), some (.int sd), some (.int (nI many)), some (.int (nI days)), some (.int (nI w)), some (.int (nI j)), some (.int (nI f)), some (.int y), some (.int v1), some (.int (s.2.2 + 0)), some (.int (nI (i + 1))), none] [] I1 T1 Q)) ∧ (¬ ((I1 509 (nI f).toNatClampNeg) = (-1)) → (ev E 323 39 [some (.ref 46), some (.int sd), some (.int (nI many)), some (.int (nI days)), some (.int (nI w)), some (.int (nI j)), some (.int (nI f)), some (.int y), some (.int v1), some (.int (s.2.2 + 1)), some (.int (nI (i + 1))), none] [] I1 T1 Q)))) (fun _ _ _ => False)) := by
      intro y hy
      refine p_more _ _ ?_
      rw [mx_eq]
      refine ⟨gix (by omega) (by omega), ?_⟩
      rw [nI_clamp (by omega), hR.1 f (by omega)]
      exact ⟨fun c => next y 0 hy (if_pos c), fun c => next y 1 hy (if_neg c)⟩
    by_cases i0 : i = 0
    · rw [if_pos i0]
      exact bq_t rfl (fin _ (if_pos i0))
    · rw [if_neg i0]
      obtain ⟨k2, a1, a2⟩ := hk i0
      refine bq_f (by rw [a2]; exact nI_m1 (by omega)) ?_
      refine p_less _ _ ?_
      rw [mn_eq]
      exact fin _ (if_neg i0)
theorem xq_span (hA : InvA B F S n cd) (hT : TG T) (sd : Int32) {many days w j f : Nat} (c2 : okW (nI many) 1 20) (hm : many ≤ 20) (c3 : okW (nI days) 1 96) (hd : days ≤ 96) (c4 : okW (nI w) 0 16) (hj : j ≤ 2) (hf : f < F) (hq : ∀ J, ro B J → Q (.inl (some (.int (thR j (rep (spS B F S n cd sd days w f) many 0 (0, 0, 0)))))) J T) : ev E 322 0 [some (.ref 0), some (.int sd), some (.int (nI many)), some (.int (nI days)), some (.int (nI w)), some (.int (nI j)), some (.int (nI f)), none, none, none, none, none] [] B T Q := by
  have hC := hA.1
  have h8 := hC.F8
  refine s_X_span_0 ?_
  unfold t_X_span_0 t_X_span_32 t_X_span_33
  refine q_within _ _ _ ?_
  rw [wI_t c2]
  refine bq_f (by decide) ?_
  refine q_within _ _ _ ?_
  rw [wI_t c3]
  refine bq_f (by decide) ?_
  refine q_within _ _ _ ?_
  rw [wI_t c4]
  refine bq_f (by decide) ?_
  refine q_within _ _ _ ?_
  rw [show wI (nI j) 0 2 = 1 from wI_n (b := 2) hj (by decide)]
  refine bq_f (by decide) ?_
  refine q_within _ _ _ ?_
  rw [hC.1.1, wI_t ((okW_lt h8).mpr ⟨f, hf, rfl⟩)]
  refine bq_f (by decide) ?_
  refine q_need hT _ (fun _ => ?_) (fun q => absurd q (by decide))
  exact l_xspan hC sd hd hf hj hm many 0 (0, 0, 0) B (ro.refl B) (by omega) hq
theorem xq_span_b (hN : hN B F S) (hT : TG T) {a1 a2 a3 a4 a5 a6 : Int32} (c : ¬ (okW a2 1 20 ∧ okW a3 1 96 ∧ okW a4 0 16 ∧ okW a5 0 2 ∧ ∃ f, f < F ∧ a6 = nI f)) (hq : Q (.inr 1) (m_up B 0 15 (B 0 15 + 1)) (TX T)) : ev E 322 0 [some (.ref 0), some (.int a1), some (.int a2), some (.int a3), some (.int a4), some (.int a5), some (.int a6), none, none, none, none, none] [] B T Q := by
  refine s_X_span_0 ?_
  unfold t_X_span_0 t_X_span_32 t_X_span_33
  refine q_within _ _ _ ?_
  by_cases c2 : okW a2 1 20
  · rw [wI_t c2]
    refine bq_f (by decide) ?_
    refine q_within _ _ _ ?_
    by_cases c3 : okW a3 1 96
    · rw [wI_t c3]
      refine bq_f (by decide) ?_
      refine q_within _ _ _ ?_
      by_cases c4 : okW a4 0 16
      · rw [wI_t c4]
        refine bq_f (by decide) ?_
        refine q_within _ _ _ ?_
        by_cases c5 : okW a5 0 2
        · rw [wI_t c5]
          refine bq_f (by decide) ?_
          refine q_within _ _ _ ?_
          rw [hN.1, wI_f (fun z => c ⟨c2, c3, c4, c5, (okW_lt hN.2.1).mp z⟩)]
          refine bq_t rfl ?_
          exact q_need hT _ (fun q => absurd rfl q) (fun _ => hq)
        · rw [wI_f c5]
          refine bq_t rfl ?_
          exact q_need hT _ (fun q => absurd rfl q) (fun _ => hq)
      · rw [wI_f c4]
        refine bq_t rfl ?_
        exact q_need hT _ (fun q => absurd rfl q) (fun _ => hq)
    · rw [wI_f c3]
      refine bq_t rfl ?_
      exact q_need hT _ (fun q => absurd rfl q) (fun _ => hq)
  · rw [wI_f c2]
    refine bq_t rfl ?_
    exact q_need hT _ (fun q => absurd rfl q) (fun _ => hq)
theorem mq_span (hC : Core B F S n cd) (h : ro B I) (sd : Int32) {many days w j f : Nat} (c2 : okW (nI many) 1 20) (hm1 : 1 ≤ many) (hm : many ≤ 20) (c3 : okW (nI days) 1 96) (hd : days ≤ 96) (c4 : okW (nI w) 0 16) (hj : j ≤ 2) (hf : f < F) (hq : ∀ J, ro B J → J 46 0 = 0 → Q (.inl (some (.int (thR j (rep (spS B F S n cd sd days w f) many 0 (0, 0, 0)))))) J T) : ev E 323 0 [some (.ref 46), some (.int sd), some (.int (nI many)), some (.int (nI days)), some (.int (nI w)), some (.int (nI j)), some (.int (nI f)), none, none, none, none, none] [] I T Q := by
  have h8 := hC.F8
  have hI : ro B (m_up I 46 0 0) := h.trans (ro_thrown I 0)
  refine s_M_span_0 ?_
  unfold t_M_span_0 t_M_span_22 t_M_span_25
  refine q_in _ _ _ ?_
  rw [wI_t c2]
  refine bq_f (by decide) ?_
  refine qs_isSeason _ _ (fun _ => ?_) (fun z => absurd ⟨c3, c4⟩ z)
  refine bq_f (by decide) ?_
  refine q_in _ _ _ ?_
  rw [show wI (nI j) 0 2 = 1 from wI_n (b := 2) hj (by decide)]
  refine bq_f (by decide) ?_
  refine qm_isFeeling (hC.2.1.ro hI) _ ?_
  rw [wI_t ((okW_lt h8).mpr ⟨f, hf, rfl⟩)]
  refine bq_f (by decide) ?_
  refine qm_bad0 rfl _ _ ?_
  refine bq_t rfl ?_
  exact l_mspan hC sd hd hf hj hm hm1 many 0 (0, 0, 0) _ hI rfl (by omega) (fun z => absurd rfl z) hq
theorem mq_span_b (hm : mN I F S) {a1 a2 a3 a4 a5 a6 : Int32} (c : ¬ (okW a2 1 20 ∧ okW a3 1 96 ∧ okW a4 0 16 ∧ okW a5 0 2 ∧ ∃ f, f < F ∧ a6 = nI f)) (hq : ∀ v J, ro (m_up I 48 1 (I 48 1 + 1)) J → J 46 0 = 1 → Q (.inl (some (.int v))) J T) : ev E 323 0 [some (.ref 46), some (.int a1), some (.int a2), some (.int a3), some (.int a4), some (.int a5), some (.int a6), none, none, none, none, none] [] I T Q := by
  have hm2 : mN (m_up I 46 0 0) F S := hm
  refine s_M_span_0 ?_
  unfold t_M_span_0 t_M_span_22 t_M_span_25
  have fin : ∀ {C : II → TT → Prop}, ev E 58 0 [some (.ref 46), some (.int 1), some (.int 1), some (.int 1)] [] (m_up I 46 0 0) T (KI (fun v1 I1 T1 => (v1 = 0 → C I1 T1) ∧ (¬ (v1 = 0) → (Q (.inl (some (.int 0))) I1 T1))) (fun x I1 T1 => Q (.inr x) I1 T1)) := by
    intro C
    refine qm_bad1 (j := 1) rfl (by decide) (by decide) ?_
    exact bq_f (by decide) (hq _ _ (ro_bad I _ _) rfl)
  refine q_in _ _ _ ?_
  by_cases c2 : okW a2 1 20
  · rw [wI_t c2]
    refine bq_f (by decide) ?_
    refine qs_isSeason _ _ (fun c3 => ?_) (fun z => ?_)
    · refine bq_f (by decide) ?_
      refine q_in _ _ _ ?_
      by_cases c5 : okW a5 0 2
      · rw [wI_t c5]
        refine bq_f (by decide) ?_
        refine qm_isFeeling hm2 _ ?_
        rw [wI_f (fun z => c ⟨c2, c3.1, c3.2, c5, (okW_lt hm.2.1).mp z⟩)]
        exact bq_t rfl fin
      · rw [wI_f c5]
        exact bq_t rfl fin
    · exact bq_t rfl fin
  · rw [wI_f c2]
    exact bq_t rfl fin
theorem o_span : op_ok Inv E t_W_main_1410 := by
  intro I T Q i m hI hT hm hi hL hn
  have hG := TI_g hT hm
  obtain ⟨F, S, n, cd, hA⟩ := hI
  unfold t_W_main_1410
  generalize E.2.2 (nI i + 1).toNatClampNeg = a1
  generalize E.2.2 (nI i + 2).toNatClampNeg = a2
  generalize E.2.2 (nI i + 3).toNatClampNeg = a3
  generalize E.2.2 (nI i + 4).toNatClampNeg = a4
  generalize E.2.2 (nI i + 5).toNatClampNeg = a5
  generalize E.2.2 (nI i + 6).toNatClampNeg = a6
  refine ⟨gsc 1 hi hL (by decide), gsc 2 hi hL (by decide), gsc 3 hi hL (by decide), gsc 4 hi hL (by decide), gsc 5 hi hL (by decide), gsc 6 hi hL (by decide), ?_⟩
  refine s_W_span_0 ?_
  unfold t_W_span_0 t_W_span_14
  by_cases c : okW a2 1 20 ∧ okW a3 1 96 ∧ okW a4 0 16 ∧ okW a5 0 2 ∧ ∃ f, f < F ∧ a6 = nI f
  · obtain ⟨c2, c3, c4, c5, f, hf, rfl⟩ := c
    obtain ⟨many, m1, m2, rfl⟩ := okW_1 (k := 20) (by decide) c2
    obtain ⟨days, d1, d2, rfl⟩ := okW_1 (k := 96) (by decide) c3
    obtain ⟨w, w1, rfl⟩ := okW_nat (k := 16) (by decide) c4
    obtain ⟨j, hj, rfl⟩ := okW_nat (k := 2) (by decide) c5
    refine xq_span hA hG a1 c2 m2 c3 d2 c4 hj hf (fun J hJ => ?_)
    exact ⟨gsc 1 hi hL (by decide), gsc 2 hi hL (by decide), gsc 3 hi hL (by decide), gsc 4 hi hL (by decide), gsc 5 hi hL (by decide), gsc 6 hi hL (by decide), mq_span hA.1 hJ a1 c2 m1 m2 c3 d2 c4 hj hf (fun K hK h0 => fin_ok h0 (fun _ => rfl) (hn K _ ⟨F, S, n, cd, hA.ro hK⟩ (TI_s hT)))⟩
  · refine xq_span_b hA.1.1 hG c ?_
    refine ⟨rfl, ?_⟩
    exact ⟨gsc 1 hi hL (by decide), gsc 2 hi hL (by decide), gsc 3 hi hL (by decide), gsc 4 hi hL (by decide), gsc 5 hi hL (by decide), gsc 6 hi hL (by decide), mq_span_b (F := F) (S := S) (show mN (m_up I 0 15 (I 0 15 + 1)) F S from hA.1.2.1) c (fun v J hJ h0 => fin_ok h0 (fun q => absurd q (by decide)) (hn J _ (Inv_thr (x := 1) (by decide) ⟨F, S, n, cd, hA⟩ rfl (ro.refl _) hJ) (TI_x hT)))⟩
end SPN
