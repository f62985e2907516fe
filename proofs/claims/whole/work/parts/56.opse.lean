/-! ===== askings: thumb, oats ===== -/
section OPE
variable {E : MEnv} {B I : II} {T : TT} {Q : QQ} {F S n : Nat} {cd : Nat → Nat × Int32}
def hs (v w : Int32) (o p : Nat) : Int32 := if o = 0 then (if p = 0 then w else 0) else (if p = 0 then v else 0 - w)
theorem q_thumbHas (v w : Int32) {o p : Nat} (ho : o ≤ 1) (hp : p ≤ 1) (hq : Q (.inl (some (.int (hs v w o p)))) I T) : ev E 265 0 [some (.int v), some (.int w), some (.int (nI o)), some (.int (nI p))] [] I T Q := by
  refine s_X_thumbHas_0 ?_
  unfold t_X_thumbHas_0 t_X_thumbHas_14 t_X_thumbHas_7
  match o, p, ho, hp with
  | 0, 0, _, _ => exact bq_t rfl (bq_t rfl hq)
  | 0, 1, _, _ => exact bq_t rfl (bq_f (by decide) hq)
  | 1, 0, _, _ => exact bq_f (by decide) (bq_t rfl hq)
  | 1, 1, _, _ => exact bq_f (by decide) (bq_f (by decide) hq)
theorem qm_hasBy (v w : Int32) {o p : Nat} (ho : o ≤ 1) (hp : p ≤ 1) (hq : Q (.inl (some (.int (hs v w o p)))) I T) : ev E 268 0 [some (.int (nI o)), some (.int (nI p)), some (.int v), some (.int w)] [] I T Q := by
  refine s_M_hasBy_0 ?_
  unfold t_M_hasBy_0 t_M_hasBy_15
  match o, p, ho, hp with
  | 0, 0, _, _ => exact bq_t rfl (bq_t rfl hq)
  | 0, 1, _, _ => exact bq_f (by decide) (bq_t rfl hq)
  | 1, 0, _, _ => exact bq_f (by decide) (bq_f (by decide) hq)
  | 1, 1, _, _ => exact bq_t rfl (bq_f (by decide) hq)
theorem one_m {o : Nat} (ho : o ≤ 1) : (1 : Int32) - nI o = nI (1 - o) := by
  match o, ho with
  | 0, _ => rfl
  | 1, _ => rfl
def isB (v w : Int32) (o p : Nat) : Int32 := if hs v w o p < hs v w (1 - o) p then 0 else 1
def rsT (v w : Int32) (o p : Nat) : Int32 := if isB v w o p = 0 then 0 else isB v w p o
theorem isB_01 (v w : Int32) (o p : Nat) : isB v w o p = 0 ∨ isB v w o p = 1 := by unfold isB; split <;> simp
theorem q_thumbRests (v w : Int32) {o p : Nat} (ho : o ≤ 1) (hp : p ≤ 1) (hq : Q (.inl (some (.int (rsT v w o p)))) I T) : ev E 264 0 [some (.int v), some (.int w), some (.int (nI o)), some (.int (nI p))] [] I T Q := by
  refine s_X_thumbRests_0 ?_
  unfold t_X_thumbRests_0 t_X_thumbRests_28 t_X_thumbRests_29
  rw [one_m ho, one_m hp]
  refine q_thumbHas v w ho hp ?_
  refine q_thumbHas v w (by omega) hp ?_
  unfold rsT isB at hq
  refine ⟨fun q => ?_, fun q => ?_⟩
  · rw [if_pos q, if_pos rfl] at hq; exact ⟨Or.inl rfl, hq⟩
  · rw [if_neg q, if_neg (by decide)] at hq
    refine q_thumbHas v w hp ho ?_
    refine q_thumbHas v w (by omega) ho ?_
    refine ⟨fun q2 => ?_, fun q2 => ?_⟩
    · rw [if_pos q2] at hq; exact ⟨Or.inl rfl, hq⟩
    · rw [if_neg q2] at hq; exact ⟨Or.inr rfl, hq⟩
theorem qm_isBest (v w : Int32) {o p : Nat} (ho : o ≤ 1) (hp : p ≤ 1) (hq : Q (.inl (some (.int (isB v w o p)))) I T) : ev E 267 0 [some (.int (nI o)), some (.int (nI p)), some (.int v), some (.int w)] [] I T Q := by
  refine s_M_isBest_0 ?_
  unfold t_M_isBest_0 t_M_isBest_16
  rw [one_m ho]
  refine qm_hasBy v w ho hp ?_
  refine qm_hasBy v w (by omega) hp ?_
  unfold isB at hq
  refine ⟨fun q => ?_, fun q => ?_⟩
  · rw [if_pos q] at hq; exact ⟨Or.inl rfl, hq⟩
  · rw [if_neg q] at hq; exact ⟨Or.inr rfl, hq⟩
abbrev T3 : Type := Int32 × Int32 × Int32
def thS (v w : Int32) (o p : Nat) (s : T3) : T3 := if rsT v w o p = 0 then s else (s.1 + 1, if s.1 = 0 then 10 * nI o + nI p else s.2.1, if s.1 = 0 then hs v w o p + hs v w p o else s.2.2)
def thR (j : Nat) (s : T3) : Int32 := [s.1, s.2.1].getD j s.2.2
theorem l_xth2 (v w : Int32) (j : Nat) {o : Nat} (ho : o ≤ 1) : ∀ (d p : Nat) (s : T3), p + d = 2 → t_X_thumb_28 E B T Q v w (nI j) (rep (thS v w o) d p s).1 (rep (thS v w o) d p s).2.1 (rep (thS v w o) d p s).2.2 (nI (o + 1)) → t_X_thumb_33 E B T Q v w (nI j) s.1 s.2.1 s.2.2 (nI o) (nI p)
  | 0, p, s, hp, hq => by
    unfold t_X_thumb_33
    rw [nI_1]
    exact bq_t (nI_lt (a := 1) (b := p) (by omega) (by omega)) (s_X_thumb_28 hq)
  | d + 1, p, s, hp, hq => by
    unfold t_X_thumb_33 t_X_thumb_62 t_X_thumb_63
    refine bq_f (nI_nlt (a := 1) (b := p) (by omega) (by omega)) ?_
    refine q_thumbRests v w ho (by omega) ?_
    rw [nI_1 p]
    rw [rep] at hq
    refine ⟨fun q => ?_, fun q => ⟨fun q2 => ?_, fun q2 => ?_⟩⟩
    · have e : thS v w o p s = s := if_pos q
      rw [e] at hq
      exact s_X_thumb_33 (l_xth2 v w j ho d (p + 1) s (by omega) hq)
    · have e : thS v w o p s = (s.1 + 1, 10 * nI o + nI p, hs v w o p + hs v w p o) := by unfold thS; rw [if_neg q, if_pos q2, if_pos q2]
      rw [e] at hq
      refine q_thumbHas v w ho (by omega) ?_
      refine q_thumbHas v w (by omega) ho ?_
      exact s_X_thumb_33 (l_xth2 v w j ho d (p + 1) (s.1 + 1, 10 * nI o + nI p, hs v w o p + hs v w p o) (by omega) hq)
    · have e : thS v w o p s = (s.1 + 1, s.2.1, s.2.2) := by unfold thS; rw [if_neg q, if_neg q2, if_neg q2]
      rw [e] at hq
      exact s_X_thumb_33 (l_xth2 v w j ho d (p + 1) (s.1 + 1, s.2.1, s.2.2) (by omega) hq)
theorem l_xth1 (v w : Int32) {j : Nat} (hj : j ≤ 2) : ∀ (d o : Nat) (s : T3), o + d = 2 → Q (.inl (some (.int (thR j (rep (fun o s => rep (thS v w o) 2 0 s) d o s))))) B T → t_X_thumb_28 E B T Q v w (nI j) s.1 s.2.1 s.2.2 (nI o)
  | 0, o, s, ho, hq => by
    unfold t_X_thumb_28 t_X_thumb_77
    refine bq_t (nI_lt (a := 1) (b := o) (by omega) (by omega)) ?_
    match j, hj with
    | 0, _ => exact bq_t rfl hq
    | 1, _ => exact bq_f (by decide) (bq_t rfl hq)
    | 2, _ => exact bq_f (by decide) (bq_f (by decide) hq)
  | d + 1, o, s, ho, hq => by
    unfold t_X_thumb_28
    refine bq_f (nI_nlt (a := 1) (b := o) (by omega) (by omega)) ?_
    rw [rep] at hq
    exact l_xth2 v w j (by omega) 2 0 s (by omega) (l_xth1 v w hj d (o + 1) _ (by omega) hq)
theorem l_mth2 (v w : Int32) (j : Nat) {o : Nat} (ho : o ≤ 1) : ∀ (d p : Nat) (s : T3), p + d = 2 → t_M_thumb_36 E I T Q v w (nI j) (rep (thS v w o) d p s).1 (rep (thS v w o) d p s).2.1 (rep (thS v w o) d p s).2.2 (nI (o + 1)) → t_M_thumb_41 E I T Q v w (nI j) s.1 s.2.1 s.2.2 (nI o) (nI p)
  | 0, p, s, hp, hq => by
    unfold t_M_thumb_41
    rw [nI_1]
    exact bq_t (nI_le (a := 2) (b := p) (by omega) (by omega)) (s_M_thumb_36 hq)
  | d + 1, p, s, hp, hq => by
    unfold t_M_thumb_41 t_M_thumb_72 t_M_thumb_82 t_M_thumb_84
    refine bq_f (nI_ge (a := p) (b := 2) (by omega) (by omega)) ?_
    refine qm_isBest v w ho (by omega) ?_
    rw [nI_1 p]
    rw [rep] at hq
    refine ⟨fun q => ?_, fun q => ?_⟩
    · have e : thS v w o p s = s := if_pos (if_pos q)
      rw [e] at hq
      exact s_M_thumb_41 (l_mth2 v w j ho d (p + 1) s (by omega) hq)
    · refine qm_isBest v w (by omega) ho ?_
      have e0 : rsT v w o p = isB v w p o := if_neg q
      refine ⟨fun q1 => ?_, fun q1 => ⟨fun q2 => ?_, fun q2 => bq_f q2 ?_⟩⟩
      · have e : thS v w o p s = s := if_pos (e0.trans q1)
        rw [e] at hq
        exact s_M_thumb_41 (l_mth2 v w j ho d (p + 1) s (by omega) hq)
      · have e : thS v w o p s = (s.1 + 1, 10 * nI o + nI p, hs v w o p + hs v w p o) := by unfold thS; rw [if_neg (by rw [e0]; exact q1), if_pos q2, if_pos q2]
        rw [e] at hq
        refine qm_hasBy v w ho (by omega) ?_
        refine qm_hasBy v w (by omega) ho ?_
        exact bq_t q2 (s_M_thumb_41 (l_mth2 v w j ho d (p + 1) (s.1 + 1, 10 * nI o + nI p, hs v w o p + hs v w p o) (by omega) hq))
      · have e : thS v w o p s = (s.1 + 1, s.2.1, s.2.2) := by unfold thS; rw [if_neg (by rw [e0]; exact q1), if_neg q2, if_neg q2]
        rw [e] at hq
        exact s_M_thumb_41 (l_mth2 v w j ho d (p + 1) (s.1 + 1, s.2.1, s.2.2) (by omega) hq)
theorem l_mth1 (v w : Int32) {j : Nat} (hj : j ≤ 2) : ∀ (d o : Nat) (s : T3), o + d = 2 → Q (.inl (some (.int (thR j (rep (fun o s => rep (thS v w o) 2 0 s) d o s))))) I T → t_M_thumb_36 E I T Q v w (nI j) s.1 s.2.1 s.2.2 (nI o)
  | 0, o, s, ho, hq => by
    unfold t_M_thumb_36 t_M_thumb_98
    refine bq_t (nI_le (a := 2) (b := o) (by omega) (by omega)) ?_
    match j, hj with
    | 0, _ => exact bq_t rfl hq
    | 1, _ => exact bq_f (by decide) (bq_t rfl hq)
    | 2, _ => exact bq_f (by decide) (bq_f (by decide) hq)
  | d + 1, o, s, ho, hq => by
    unfold t_M_thumb_36
    refine bq_f (nI_ge (a := o) (b := 2) (by omega) (by omega)) ?_
    rw [rep] at hq
    exact l_mth2 v w j (by omega) 2 0 s (by omega) (l_mth1 v w hj d (o + 1) _ (by omega) hq)
theorem xq_thumb (hA : InvA B F S n cd) (hT : TG T) {a1 a2 a3 : Int32} (c : okW a1 0 99 ∧ okW a2 0 99 ∧ okW a3 0 2) (hq : ∀ J, ro B J → Q (.inl (some (.int (thR a3.toNatClampNeg (rep (fun o s => rep (thS a1 a2 o) 2 0 s) 2 0 (0, -1, 0)))))) J T) : ev E 263 0 [some (.ref 0), some (.int a1), some (.int a2), some (.int a3), none, none, none, none, none] [] B T Q := by
  obtain ⟨c1, c2, c3⟩ := c
  refine s_X_thumb_0 ?_
  unfold t_X_thumb_0 t_X_thumb_18 t_X_thumb_19
  refine q_within _ _ _ ?_
  rw [wI_t c1]
  refine bq_f (by decide) ?_
  refine q_within _ _ _ ?_
  rw [wI_t c2]
  refine bq_f (by decide) ?_
  refine q_within _ _ _ ?_
  rw [wI_t c3]
  refine bq_f (by decide) ?_
  refine q_need hT _ (fun _ => ?_) (fun q => absurd q (by decide))
  obtain ⟨j, hj, rfl⟩ := okW_nat (k := 2) (by decide) c3
  have z := hq B (ro.refl B)
  rw [nI_clamp (by omega)] at z
  exact l_xth1 a1 a2 hj 2 0 (0, -1, 0) (by omega) z
theorem xq_thumb_b (hT : TG T) {a1 a2 a3 : Int32} (c : ¬ (okW a1 0 99 ∧ okW a2 0 99 ∧ okW a3 0 2)) (hq : Q (.inr 1) (m_up B 0 15 (B 0 15 + 1)) (TX T)) : ev E 263 0 [some (.ref 0), some (.int a1), some (.int a2), some (.int a3), none, none, none, none, none] [] B T Q := by
  refine s_X_thumb_0 ?_
  unfold t_X_thumb_0 t_X_thumb_18 t_X_thumb_19
  refine q_within _ _ _ ?_
  by_cases c1 : okW a1 0 99
  · rw [wI_t c1]
    refine bq_f (by decide) ?_
    refine q_within _ _ _ ?_
    by_cases c2 : okW a2 0 99
    · rw [wI_t c2]
      refine bq_f (by decide) ?_
      refine q_within _ _ _ ?_
      by_cases c3 : okW a3 0 2
      · rw [wI_t c3]
        refine bq_f (by decide) ?_
        exact absurd ⟨c1, c2, c3⟩ c
      · rw [wI_f c3]
        refine bq_t rfl ?_
        exact q_need hT _ (fun q => absurd rfl q) (fun _ => hq)
    · rw [wI_f c2]
      refine bq_t rfl ?_
      exact q_need hT _ (fun q => absurd rfl q) (fun _ => hq)
  · rw [wI_f c1]
    refine bq_t rfl ?_
    exact q_need hT _ (fun q => absurd rfl q) (fun _ => hq)
theorem mq_thumb (hA : InvA B F S n cd) (h : ro B I) {a1 a2 a3 : Int32} (c : okW a1 0 99 ∧ okW a2 0 99 ∧ okW a3 0 2) (hq : ∀ J, ro B J → J 46 0 = 0 → Q (.inl (some (.int (thR a3.toNatClampNeg (rep (fun o s => rep (thS a1 a2 o) 2 0 s) 2 0 (0, -1, 0)))))) J T) : ev E 266 0 [some (.ref 46), some (.int a1), some (.int a2), some (.int a3), none, none, none, none, none] [] I T Q := by
  have hC := hA.1
  have hI : ro B (m_up I 46 0 0) := h.trans (ro_thrown I 0)
  have h0 : (m_up I 46 0 0) 46 0 = 0 := rfl
  obtain ⟨c1, c2, c3⟩ := c
  refine s_M_thumb_0 ?_
  unfold t_M_thumb_0 t_M_thumb_19 t_M_thumb_22
  refine q_in _ _ _ ?_
  rw [wI_t c1]
  refine bq_f (by decide) ?_
  refine q_in _ _ _ ?_
  rw [wI_t c2]
  refine bq_f (by decide) ?_
  refine q_in _ _ _ ?_
  rw [wI_t c3]
  refine bq_f (by decide) ?_
  refine qm_bad0 rfl _ _ ?_
  refine bq_t rfl ?_
  obtain ⟨j, hj, rfl⟩ := okW_nat (k := 2) (by decide) c3
  have z := hq _ hI h0
  rw [nI_clamp (by omega)] at z
  exact l_mth1 a1 a2 hj 2 0 (0, -1, 0) (by omega) z
theorem mq_thumb_b {a1 a2 a3 : Int32} (c : ¬ (okW a1 0 99 ∧ okW a2 0 99 ∧ okW a3 0 2)) (hq : ∀ v J, ro (m_up I 48 1 (I 48 1 + 1)) J → J 46 0 = 1 → Q (.inl (some (.int v))) J T) : ev E 266 0 [some (.ref 46), some (.int a1), some (.int a2), some (.int a3), none, none, none, none, none] [] I T Q := by
  refine s_M_thumb_0 ?_
  unfold t_M_thumb_0 t_M_thumb_19 t_M_thumb_22
  refine q_in _ _ _ ?_
  by_cases c1 : okW a1 0 99
  · rw [wI_t c1]
    refine bq_f (by decide) ?_
    refine q_in _ _ _ ?_
    by_cases c2 : okW a2 0 99
    · rw [wI_t c2]
      refine bq_f (by decide) ?_
      refine q_in _ _ _ ?_
      by_cases c3 : okW a3 0 2
      · rw [wI_t c3]
        refine bq_f (by decide) ?_
        exact absurd ⟨c1, c2, c3⟩ c
      · rw [wI_f c3]
        refine bq_t rfl ?_
        refine qm_bad1 (j := 1) rfl (by decide) (by decide) ?_
        refine bq_f (by decide) ?_
        exact hq _ _ (ro_bad I _ _) rfl
    · rw [wI_f c2]
      refine bq_t rfl ?_
      refine qm_bad1 (j := 1) rfl (by decide) (by decide) ?_
      refine bq_f (by decide) ?_
      exact hq _ _ (ro_bad I _ _) rfl
  · rw [wI_f c1]
    refine bq_t rfl ?_
    refine qm_bad1 (j := 1) rfl (by decide) (by decide) ?_
    refine bq_f (by decide) ?_
    exact hq _ _ (ro_bad I _ _) rfl
theorem o_thumb : op_ok Inv E t_W_main_832 := by
  intro I T Q i m hI hT hm hi hL hn
  have hG := TI_g hT hm
  obtain ⟨F, S, n, cd, hA⟩ := hI
  unfold t_W_main_832
  generalize E.2.2 (nI i + 1).toNatClampNeg = a1
  generalize E.2.2 (nI i + 2).toNatClampNeg = a2
  generalize E.2.2 (nI i + 3).toNatClampNeg = a3
  refine ⟨gsc 1 hi hL (by decide), gsc 2 hi hL (by decide), gsc 3 hi hL (by decide), ?_⟩
  refine s_W_thumb_0 ?_
  unfold t_W_thumb_0 t_W_thumb_11
  by_cases c : okW a1 0 99 ∧ okW a2 0 99 ∧ okW a3 0 2
  · refine xq_thumb hA hG c (fun J hJ => ?_)
    exact ⟨gsc 1 hi hL (by decide), gsc 2 hi hL (by decide), gsc 3 hi hL (by decide), mq_thumb hA hJ c (fun K hK h0 => fin_ok h0 (fun _ => rfl) (hn K _ ⟨F, S, n, cd, hA.ro hK⟩ (TI_s hT)))⟩
  · refine xq_thumb_b hG c ?_
    refine ⟨rfl, ?_⟩
    exact ⟨gsc 1 hi hL (by decide), gsc 2 hi hL (by decide), gsc 3 hi hL (by decide), mq_thumb_b c (fun v J hJ h0 => fin_ok h0 (fun q => absurd q (by decide)) (hn J _ (Inv_thr (x := 1) (by decide) ⟨F, S, n, cd, hA⟩ rfl (ro.refl _) hJ) (TI_x hT)))⟩
theorem and1 (x : Int32) : (x &&& 1) = 0 ∨ (x &&& 1) = 1 := by
  obtain ⟨j, hj, e⟩ := pk_andE x (m := 1) 1 (by decide)
  rw [e]
  match j, hj with
  | 0, _ => exact Or.inl rfl
  | 1, _ => exact Or.inr rfl
def mnO (b t : Int32) : Int32 := if b < t then b else t
theorem mnO_eq (b t : Int32) : (if t ≤ b then t else b) = mnO b t := by
  unfold mnO
  by_cases c : t ≤ b
  · rw [if_pos c, if_neg (by rw [fa_lt]; rw [fa_le] at c; omega)]
  · rw [if_neg c, if_pos (fa_of_nle c)]
def gvV (B : II) (w b : Int32) (f : Nat) (a : Int32) : Int32 := if ((w >>> (nI f &&& 31)) &&& 1) = 1 then a + mnO b (B 29 (16 + f)) else a
theorem l_xow (hC : Core B F S n cd) (w b : Int32) : ∀ (d f : Nat) (a : Int32), f + d = F → Q (.inl (some (.int (rep (gvV B w b) d f a)))) B T → t_X_oatsWithin_4 E B T Q w b a (nI f)
  | 0, f, a, hf, hq => by
    have h8 := hC.F8
    unfold t_X_oatsWithin_4
    rw [hC.1.1]
    exact bq_t (nI_le (by omega) (by omega)) hq
  | d + 1, f, a, hf, hq => by
    have h8 := hC.F8
    unfold t_X_oatsWithin_4 t_X_oatsWithin_25
    rw [hC.1.1]
    refine bq_f (nI_ge (by omega) (by omega)) ?_
    rw [rep] at hq
    unfold gvV at hq
    rw [nI_1]
    refine ⟨fun q => ?_, fun q => ?_⟩
    · rw [if_pos q] at hq
      refine q_tired hC (ro.refl B) (by omega) ?_
      exact s_X_oatsWithin_4 (l_xow hC w b d (f + 1) _ (by omega) hq)
    · rw [if_neg q] at hq
      exact s_X_oatsWithin_4 (l_xow hC w b d (f + 1) _ (by omega) hq)
theorem l_mow (hC : Core B F S n cd) (h : ro B I) (w b : Int32) : ∀ (d f : Nat) (a : Int32), f + d = F → Q (.inl (some (.int (rep (gvV B w b) d f a)))) I T → t_M_givenBy_4 E I T Q w b a (nI f)
  | 0, f, a, hf, hq => by
    have h8 := hC.F8
    unfold t_M_givenBy_4
    rw [(hC.2.1.ro h).1]
    exact bq_t (nI_le (by omega) (by omega)) hq
  | d + 1, f, a, hf, hq => by
    have h8 := hC.F8
    have e508 : I 508 = B 508 := h.cell (c := 508) (by decide)
    unfold t_M_givenBy_4 t_M_givenBy_25
    rw [(hC.2.1.ro h).1]
    refine bq_f (nI_ge (by omega) (by omega)) ?_
    rw [rep] at hq
    unfold gvV at hq
    refine p_has _ _ ?_
    rw [nI_1, z16]
    by_cases q : ((w >>> (nI f &&& 31)) &&& 1) = 1
    · rw [if_pos q] at hq ⊢
      refine bq_f (by decide) ⟨gix (by omega) (by omega), ?_⟩
      rw [nI_clamp (by omega), e508, hC.q (by omega)]
      refine p_less _ _ ?_
      rw [mnO_eq]
      exact s_M_givenBy_4 (l_mow hC h w b d (f + 1) _ (by omega) hq)
    · rw [if_neg q] at hq ⊢
      refine bq_t rfl ?_
      rw [Int32.add_zero]
      exact s_M_givenBy_4 (l_mow hC h w b d (f + 1) _ (by omega) hq)
def gvO (B : II) (F : Nat) (w : Int32) (b : Nat) : Int32 := rep (gvV B w (nI b)) F 0 0
/-- the bound from b on, d more at most -/
def bdO (B : II) (F : Nat) (w x : Int32) : Nat → Nat → Nat
  | 0, b => b
  | d + 1, b => if x < gvO B F w (b + 1) then b else bdO B F w x d (b + 1)
theorem bdO_ge (B : II) (F : Nat) (w x : Int32) : ∀ (d b : Nat), b ≤ bdO B F w x d b
  | 0, _ => Nat.le_refl _
  | d + 1, b => by
    rw [bdO]
    split
    · exact Nat.le_refl _
    · exact Nat.le_trans (by omega) (bdO_ge B F w x d (b + 1))
theorem bdO_le (B : II) (F : Nat) (w x : Int32) : ∀ (d b : Nat), bdO B F w x d b ≤ b + d
  | 0, _ => Nat.le_refl _
  | d + 1, b => by
    rw [bdO]
    split
    · omega
    · have := bdO_le B F w x d (b + 1); omega
theorem bdO_min (B : II) (F : Nat) (w x : Int32) : ∀ (d e b : Nat), d ≤ e → bdO B F w x d b = min (bdO B F w x e b) (b + d)
  | 0, e, b, _ => by have := bdO_ge B F w x e b; show b = _; omega
  | d + 1, 0, b, h => by omega
  | d + 1, e + 1, b, h => by
    rw [bdO, bdO]
    split
    · omega
    · rw [bdO_min B F w x d e (b + 1) (by omega)]
      congr 1
      omega
theorem l_xoats (hC : Core B F S n cd) {f t : Nat} (hf : f < F) (ht : t ≤ 999) (et : B 29 (16 + f) = nI t) (w x : Int32) : ∀ (d b : Nat), b + d = t → Q (.inl (some (.int (nI (bdO B F w x d b))))) B T → t_X_oats_29 E B T Q (nI f) w x (nI b)
  | 0, b, hb, hq => by
    have h8 := hC.F8
    unfold t_X_oats_29 t_X_oats_45
    refine q_tired hC (ro.refl B) hf ?_
    rw [et]
    exact bq_t (nI_le (by omega) (by omega)) hq
  | d + 1, b, hb, hq => by
    have h8 := hC.F8
    unfold t_X_oats_29 t_X_oats_45
    refine q_tired hC (ro.refl B) hf ?_
    rw [et]
    refine bq_f (nI_ge (by omega) (by omega)) ?_
    rw [nI_1]
    refine s_X_oatsWithin_0 (l_xow hC w (nI (b + 1)) F 0 0 (by omega) ?_)
    rw [bdO] at hq
    unfold gvO at hq
    refine ⟨fun q => ?_, fun q => ?_⟩
    · rw [if_pos q] at hq; exact hq
    · rw [if_neg q] at hq
      exact s_X_oats_29 (l_xoats hC hf ht et w x d (b + 1) (by omega) hq)
theorem l_moats (hC : Core B F S n cd) (h : ro B I) (y w x : Int32) : ∀ (d b : Nat), b + d = 999 → t_M_oats_57 E I T Q y w (nI (bdO B F w x d b)) → t_M_oats_44 E I T Q y w x (nI b)
  | 0, b, hb, hq => by
    unfold t_M_oats_44
    exact bq_t (nI_le (a := 999) (b := b) (by omega) (by omega)) hq
  | d + 1, b, hb, hq => by
    unfold t_M_oats_44
    refine bq_f (nI_ge (a := b) (b := 999) (by omega) (by omega)) ?_
    rw [nI_1]
    refine s_M_givenBy_0 (l_mow hC h w (nI (b + 1)) F 0 0 (by omega) ?_)
    rw [bdO] at hq
    unfold gvO at hq
    refine ⟨fun q => ?_, fun q => ?_⟩
    · rw [if_pos q] at hq; exact hq
    · rw [if_neg q] at hq
      exact s_M_oats_44 (l_moats hC h y w x d (b + 1) (by omega) hq)
def oatV (B : II) (F f : Nat) (w x : Int32) : Int32 := if ((w >>> (nI f &&& 31)) &&& 1) = 1 then nI (bdO B F w x (B 29 (16 + f)).toNatClampNeg 0) else 0
theorem shr_ok {x : Int32} : ∀ {F : Nat}, F ≤ 8 → ((x >>> (nI F &&& 31)) = 0 ↔ okW x 0 (((1 : Int32) <<< (nI F &&& 31)) - 1)) := by
  intro F hF
  have h : ∀ F : Fin 9, ((nI F.val &&& 31).toBitVec.smod 32).toNat = F.val ∧ ((1 : Int32) <<< (nI F.val &&& 31)) - 1 = nI (2 ^ F.val - 1) := by decide +kernel
  obtain ⟨h1, h2⟩ := h ⟨F, by omega⟩
  simp only at h1 h2
  rw [h2]
  have e0 : (0 : Int32).toInt = 0 := rfl
  have h3 := pk_shr x (nI F &&& 31) F h1
  have hb : 2 ^ F - 1 < 2 ^ 31 := Nat.lt_of_lt_of_le (Nat.sub_lt (Nat.two_pow_pos F) (by omega)) (Nat.pow_le_pow_right (by omega) (by omega))
  unfold okW
  rw [fa_eq, h3, fa_lt, fa_lt, nI_toInt hb, e0, Int.shiftRight_eq_div_pow]
  generalize x.toInt = z
  match F, hF with
  | 0, _ => simp; omega
  | 1, _ => simp; omega
  | 2, _ => simp; omega
  | 3, _ => simp; omega
  | 4, _ => simp; omega
  | 5, _ => simp; omega
  | 6, _ => simp; omega
  | 7, _ => simp; omega
  | 8, _ => simp; omega
theorem xq_oats (hA : InvA B F S n cd) (hT : TG T) {f : Nat} (hf : f < F) {w x : Int32} (c1 : (w >>> (nI F &&& 31)) = 0) (c2 : okW x 0 9999) (hq : ∀ J, ro B J → Q (.inl (some (.int (oatV B F f w x)))) J T) : ev E 276 0 [some (.ref 0), some (.int (nI f)), some (.int w), some (.int x), none] [] B T Q := by
  have hC := hA.1
  have h8 := hC.F8
  refine s_X_oats_0 ?_
  unfold t_X_oats_0 t_X_oats_17 t_X_oats_18
  refine q_needF hC.1 hT _ (fun _ => ?_) (fun q => absurd ⟨f, hf, rfl⟩ q)
  refine bq_t (by rw [hC.1.1]; exact c1) ?_
  refine q_within _ _ _ ?_
  rw [wI_t c2]
  refine bq_f (by decide) ?_
  refine q_need hT _ (fun _ => ?_) (fun q => absurd q (by decide))
  have z := hq B (ro.refl B)
  unfold oatV at z
  have h01 : ((w >>> (nI f &&& 31)) &&& 1) = 0 ∨ ((w >>> (nI f &&& 31)) &&& 1) = 1 := and1 _
  obtain ⟨t, ht, et⟩ := hC.rv.2.2.2.1 f hf
  rw [et, nI_clamp (by omega)] at z
  refine ⟨fun q => ?_, fun q => ?_⟩
  · rw [if_neg (by rw [q]; decide)] at z; exact z
  · rw [if_pos (h01.resolve_left q)] at z
    exact l_xoats hC hf ht et w x t 0 (by omega) z
theorem xq_oats_b1 (hA : InvA B F S n cd) (hT : TG T) {f : Nat} (hf : f < F) {w x : Int32} (c : ¬ ((w >>> (nI F &&& 31)) = 0 ∧ okW x 0 9999)) (hq : Q (.inr 1) (m_up B 0 15 (B 0 15 + 1)) (TX T)) : ev E 276 0 [some (.ref 0), some (.int (nI f)), some (.int w), some (.int x), none] [] B T Q := by
  have hC := hA.1
  refine s_X_oats_0 ?_
  unfold t_X_oats_0 t_X_oats_17 t_X_oats_18
  refine q_needF hC.1 hT _ (fun _ => ?_) (fun q => absurd ⟨f, hf, rfl⟩ q)
  change ((w >>> (B 3 5 &&& 31)) = 0 → _) ∧ (¬ ((w >>> (B 3 5 &&& 31)) = 0) → _)
  rw [hC.1.1]
  refine ⟨fun c1 => ?_, fun c1 => ?_⟩
  · refine q_within _ _ _ ?_
    rw [wI_f (fun c2 => c ⟨c1, c2⟩)]
    refine bq_t rfl ?_
    exact q_need hT _ (fun q => absurd rfl q) (fun _ => hq)
  · exact q_need hT _ (fun q => absurd rfl q) (fun _ => hq)
theorem xq_oats_b0 (hA : InvA B F S n cd) (hT : TG T) {a w x : Int32} (c : ¬ ∃ f, f < F ∧ a = nI f) (hq : Q (.inr 0) (m_up B 0 14 (B 0 14 + 1)) (TX T)) : ev E 276 0 [some (.ref 0), some (.int a), some (.int w), some (.int x), none] [] B T Q := by
  refine s_X_oats_0 ?_
  unfold t_X_oats_0 t_X_oats_17 t_X_oats_18
  exact q_needF hA.1.1 hT _ (fun q => absurd q c) (fun _ => hq)
theorem mq_oats (hC : Core B F S n cd) (h : ro B I) {f : Nat} (hf : f < F) {w x : Int32} (c1 : (w >>> (nI F &&& 31)) = 0) (c2 : okW x 0 9999) (hq : ∀ J, ro B J → J 46 0 = 0 → Q (.inl (some (.int (oatV B F f w x)))) J T) : ev E 278 0 [some (.ref 46), some (.int (nI f)), some (.int w), some (.int x), none] [] I T Q := by
  have h8 := hC.F8
  have hI : ro B (m_up I 46 0 0) := h.trans (ro_thrown I 0)
  have hm := hC.2.1.ro hI
  have e508 : (m_up I 46 0 0) 508 = B 508 := hI.cell (c := 508) (by decide)
  refine s_M_oats_0 ?_
  unfold t_M_oats_0 t_M_oats_11 t_M_oats_33 t_M_oats_36 t_M_oats_40
  refine qm_isFeeling hm _ ?_
  rw [wI_t ((okW_lt h8).mpr ⟨f, hf, rfl⟩)]
  refine bq_f (by decide) ?_
  refine qm_bad0 rfl _ _ ?_
  refine bq_t rfl ?_
  refine q_in _ _ _ ?_
  rw [hm.1, wI_t ((shr_ok h8).mp c1)]
  refine bq_f (by decide) ?_
  refine q_in _ _ _ ?_
  rw [wI_t c2]
  refine bq_f (by decide) ?_
  refine qm_bad0 rfl _ _ ?_
  refine bq_t rfl ?_
  refine l_moats hC hI _ _ _ 999 0 (by omega) ?_
  unfold t_M_oats_57 t_M_oats_71
  refine p_has _ _ ?_
  have z := hq _ hI rfl
  unfold oatV at z
  by_cases q : ((w >>> (nI f &&& 31)) &&& 1) = 1
  · rw [if_pos q] at z ⊢
    refine bq_f (by decide) ?_
    rw [z16]
    refine ⟨gix (by omega) (by omega), ?_⟩
    rw [nI_clamp (by omega), e508, hC.q (by omega)]
    refine p_less _ _ ?_
    obtain ⟨t, ht, et⟩ := hC.rv.2.2.2.1 f hf
    rw [et] at z ⊢
    rw [nI_clamp (by omega), bdO_min B F w x t 999 0 (by omega)] at z
    have hb := bdO_le B F w x 999 0
    have em : (if nI t ≤ nI (bdO B F w x 999 0) then nI t else nI (bdO B F w x 999 0)) = nI (min (bdO B F w x 999 0) (0 + t)) := by
      by_cases k : t ≤ bdO B F w x 999 0
      · rw [if_pos (nI_le k (by omega))]; congr 1; omega
      · rw [if_neg (nI_ge (by omega) (by omega))]; congr 1; omega
    rw [em]
    exact z
  · rw [if_neg q] at z ⊢
    exact bq_t rfl z
theorem mq_oats_b1 (hm : mN I F S) {f : Nat} (hf : f < F) {w x : Int32} (c : ¬ ((w >>> (nI F &&& 31)) = 0 ∧ okW x 0 9999)) (hq : ∀ v J, ro (m_up I 48 1 (I 48 1 + 1)) J → J 46 0 = 2 → Q (.inl (some (.int v))) J T) : ev E 278 0 [some (.ref 46), some (.int (nI f)), some (.int w), some (.int x), none] [] I T Q := by
  have hm2 : mN (m_up I 46 0 0) F S := hm
  refine s_M_oats_0 ?_
  unfold t_M_oats_0 t_M_oats_11 t_M_oats_33 t_M_oats_36 t_M_oats_40
  refine qm_isFeeling hm2 _ ?_
  rw [wI_t ((okW_lt hm.2.1).mpr ⟨f, hf, rfl⟩)]
  refine bq_f (by decide) ?_
  refine qm_bad0 rfl _ _ ?_
  refine bq_t rfl ?_
  refine q_in _ _ _ ?_
  rw [hm2.1]
  by_cases c1 : (w >>> (nI F &&& 31)) = 0
  · rw [wI_t ((shr_ok hm.2.1).mp c1)]
    refine bq_f (by decide) ?_
    refine q_in _ _ _ ?_
    rw [wI_f (fun c2 => c ⟨c1, c2⟩)]
    refine bq_t rfl ?_
    refine qm_bad1 (j := 1) rfl (by decide) (by decide) ?_
    refine bq_f (by decide) ?_
    exact hq _ _ (ro_bad I _ _) rfl
  · rw [wI_f (fun z => c1 ((shr_ok hm.2.1).mpr z))]
    refine bq_t rfl ?_
    refine qm_bad1 (j := 1) rfl (by decide) (by decide) ?_
    refine bq_f (by decide) ?_
    exact hq _ _ (ro_bad I _ _) rfl
theorem mq_oats_b0 (hm : mN I F S) {a w x : Int32} (c : ¬ ∃ f, f < F ∧ a = nI f) (hq : ∀ v J, ro (m_up I 48 0 (I 48 0 + 1)) J → J 46 0 = 1 → Q (.inl (some (.int v))) J T) : ev E 278 0 [some (.ref 46), some (.int a), some (.int w), some (.int x), none] [] I T Q := by
  have hm2 : mN (m_up I 46 0 0) F S := hm
  refine s_M_oats_0 ?_
  unfold t_M_oats_0 t_M_oats_11 t_M_oats_33 t_M_oats_36 t_M_oats_40
  refine qm_isFeeling hm2 _ ?_
  rw [wI_f (fun q => c ((okW_lt hm.2.1).mp q))]
  refine bq_t rfl ?_
  refine qm_bad1 (j := 0) rfl (by decide) (by decide) ?_
  refine bq_f (by decide) ?_
  exact hq _ _ (ro_bad I _ _) rfl
theorem o_oats : op_ok Inv E t_W_main_951 := by
  intro I T Q i m hI hT hm hi hL hn
  have hG := TI_g hT hm
  obtain ⟨F, S, n, cd, hA⟩ := hI
  unfold t_W_main_951
  generalize E.2.2 (nI i + 1).toNatClampNeg = a1
  generalize E.2.2 (nI i + 2).toNatClampNeg = a2
  generalize E.2.2 (nI i + 3).toNatClampNeg = a3
  refine ⟨gsc 1 hi hL (by decide), gsc 2 hi hL (by decide), gsc 3 hi hL (by decide), ?_⟩
  refine s_W_oats_0 ?_
  unfold t_W_oats_0 t_W_oats_14 t_W_oats_11
  by_cases c0 : ∃ f, f < F ∧ a1 = nI f
  · obtain ⟨f, hf, rfl⟩ := c0
    by_cases c : (a2 >>> (nI F &&& 31)) = 0 ∧ okW a3 0 9999
    · refine xq_oats hA hG hf c.1 c.2 (fun J hJ => ?_)
      exact ⟨gsc 1 hi hL (by decide), gsc 2 hi hL (by decide), gsc 3 hi hL (by decide), mq_oats hA.1 hJ hf c.1 c.2 (fun K hK h0 => fin_ok h0 (fun _ => rfl) (hn K _ ⟨F, S, n, cd, hA.ro hK⟩ (TI_s hT)))⟩
    · refine xq_oats_b1 hA hG hf c ?_
      refine Or.inr ⟨rfl, ?_⟩
      exact ⟨gsc 1 hi hL (by decide), gsc 2 hi hL (by decide), gsc 3 hi hL (by decide), mq_oats_b1 (F := F) (S := S) (show mN (m_up I 0 15 (I 0 15 + 1)) F S from hA.1.2.1) hf c (fun v J hJ h0 => fin_ok h0 (fun q => absurd q (by decide)) (hn J _ (Inv_thr (x := 1) (by decide) ⟨F, S, n, cd, hA⟩ rfl (ro.refl _) hJ) (TI_x hT)))⟩
  · refine xq_oats_b0 hA hG c0 ?_
    refine Or.inl ⟨rfl, ?_⟩
    exact ⟨gsc 1 hi hL (by decide), gsc 2 hi hL (by decide), gsc 3 hi hL (by decide), mq_oats_b0 (F := F) (S := S) (show mN (m_up I 0 14 (I 0 14 + 1)) F S from hA.1.2.1) c0 (fun v J hJ h0 => fin_ok h0 (fun q => absurd q (by decide)) (hn J _ (Inv_thr (x := 0) (by decide) ⟨F, S, n, cd, hA⟩ rfl (ro.refl _) hJ) (TI_x hT)))⟩
end OPE
