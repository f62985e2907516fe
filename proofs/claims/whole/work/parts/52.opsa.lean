/-! ===== askings: fault, status, count, told, feeling, stage, at, force, comes, needs, pairs, side ===== -/
section OPA
variable {E : MEnv} {B I : II} {T : TT} {Q : QQ} {F S n : Nat} {cd : Nat → Nat × Int32}
theorem wI_n {j b : Nat} (h : j ≤ b) (hb : b < 2 ^ 31) : wI (nI j) 0 (nI b) = 1 := wI_t ⟨nI_pos (by omega), nI_nlt h hb⟩
theorem ro_bad (I : II) (w : Int32) (j : Nat) : ro (m_up I 48 j (I 48 j + 1)) (m_up (m_up (m_up I 46 0 0) 46 0 w) 48 j ((m_up I 46 0 0) 48 j + 1)) := by
  refine ⟨fun c hc => ?_, fun _ _ => rfl, fun k a _ _ _ => ?_⟩
  · by_cases q : c = 48
    · subst q
      funext k
      rw [m_up_at, m_up_at]
      rfl
    · have q2 : c ≠ 46 := fun e => hc (by rw [e]; decide)
      rw [m_up_ne q, m_up_ne q2, m_up_ne q2, m_up_ne q]
  · rw [m_up_ne (by decide), m_up_at, if_neg a, m_up_at, if_neg a, m_up_ne (by decide)]
theorem xq_fault (_ : InvA B F S n cd) (hq : ∀ J, ro B J → Q (.inl (some (.int (B 1 6)))) J T) : ev E 174 0 [some (.ref 0)] [] B T Q := s_X_fault_0 (hq B (ro.refl B))
theorem mq_fault (hA : InvA B F S n cd) (h : ro B I) (hq : ∀ J, ro B J → Q (.inl (some (.int (B 1 6)))) J T) : ev E 175 0 [some (.ref 46)] [] I T Q := by
  refine s_M_fault_0 ?_
  unfold t_M_fault_0
  have := hq _ (h.trans (ro_thrown I 0))
  rw [hA.2.2.2.2.1.1, ← h.2.2 3 (by decide) (by decide) (by decide) (by decide)] at this
  exact this
theorem o_fault : op_ok Inv E t_W_main_222 := by
  intro I T Q i m hI hT hm hi hL hn
  have hG := TI_g hT hm
  obtain ⟨F, S, n, cd, hA⟩ := hI
  unfold t_W_main_222
  refine xq_fault hA  (fun J hJ => ?_)
  exact mq_fault hA hJ  (fun K hK => bq_t rfl (hn K _ ⟨F, S, n, cd, hA.ro hK⟩ (TI_s hT)))
def statV (B : II) (x : Int32) : Int32 := if x = 0 then B 0 14 else if x = 1 then B 0 15 else -1
theorem xq_status (_ : InvA B F S n cd) (x : Int32) (hq : ∀ J, ro B J → Q (.inl (some (.int (statV B x)))) J T) : ev E 332 0 [some (.ref 0), some (.int x)] [] B T Q := by
  refine s_X_status_0 ?_
  unfold t_X_status_0 t_X_status_12
  have := hq B (ro.refl B)
  unfold statV at this
  refine ⟨fun q => ?_, fun q => ⟨fun q2 => ?_, fun q2 => ?_⟩⟩
  · rw [if_pos q] at this; exact this
  · rw [if_neg q, if_pos q2] at this; exact this
  · rw [if_neg q, if_neg q2] at this; exact this
theorem mq_status (hA : InvA B F S n cd) (h : ro B I) (x : Int32) (hq : ∀ J, ro B J → Q (.inl (some (.int (statV B x)))) J T) : ev E 333 0 [some (.ref 46), some (.int x)] [] I T Q := by
  refine s_M_status_0 ?_
  unfold t_M_status_0 t_M_status_14
  have := hq _ (h.trans (ro_thrown I 0))
  unfold statV at this
  rw [hA.2.2.2.2.2.1.2.1, hA.2.2.2.2.2.1.2.2] at this
  refine q_in _ _ _ ?_
  by_cases c : okW x 0 1
  · rw [wI_t c]
    refine bq_f (by decide) ?_
    obtain ⟨j, hj, rfl⟩ := okW_nat (k := 1) (by decide) c
    refine ⟨gix (by omega) (by omega), ?_⟩
    rw [nI_clamp (by omega), m_up_ne (by decide), h.cell (c := 48) (by decide)]
    match j, hj with
    | 0, _ => exact this
    | 1, _ => exact this
  · rw [wI_f c]
    refine bq_t rfl ?_
    rw [if_neg (fun q => c (by rw [q]; exact ⟨by decide, by decide⟩)), if_neg (fun q => c (by rw [q]; exact ⟨by decide, by decide⟩))] at this
    exact this
theorem o_status : op_ok Inv E t_W_main_1509 := by
  intro I T Q i m hI hT hm hi hL hn
  have hG := TI_g hT hm
  obtain ⟨F, S, n, cd, hA⟩ := hI
  unfold t_W_main_1509
  generalize E.2.2 (nI i + 1).toNatClampNeg = a1
  refine ⟨gsc 1 hi hL (by decide), ?_⟩
  refine xq_status hA a1 (fun J hJ => ?_)
  refine ⟨gsc 1 hi hL (by decide), ?_⟩
  exact mq_status hA hJ a1 (fun K hK => bq_t rfl (hn K _ ⟨F, S, n, cd, hA.ro hK⟩ (TI_s hT)))
def cntV (B : II) (x : Int32) : Int32 := if x = 0 then B 32 4 else if x = 1 then B 1 1 else if x = 2 then B 32 3 else -1
theorem tsw_off {lo hi : Int} {ts : List Nat} {d : Nat} {x : Int32} (h : x.toInt < lo ∨ hi < x.toInt) : m_tsw lo hi ts d x = d := if_pos h
theorem xq_count (_ : InvA B F S n cd) (x : Int32) (hq : ∀ J, ro B J → Q (.inl (some (.int (cntV B x)))) J T) : ev E 334 0 [some (.ref 0), some (.int x)] [] B T Q := by
  refine s_X_count_0 ?_
  unfold t_X_count_0
  have := hq B (ro.refl B)
  unfold cntV at this
  by_cases c : okW x 0 2
  · obtain ⟨j, hj, rfl⟩ := okW_nat (k := 2) (by decide) c
    match j, hj with
    | 0, _ => exact ev_fg [true, false] rfl (s_X_count_2 this)
    | 1, _ => exact ev_fg [true, false] rfl (s_X_count_6 this)
    | 2, _ => exact ev_fg [true, false] rfl (s_X_count_10 this)
  · rw [if_neg (fun q => c (by rw [q]; exact ⟨by decide, by decide⟩)), if_neg (fun q => c (by rw [q]; exact ⟨by decide, by decide⟩)), if_neg (fun q => c (by rw [q]; exact ⟨by decide, by decide⟩))] at this
    have e : m_tsw 0 2 [2, 6, 10] 14 x = 14 := tsw_off (by
      have e0 : (0 : Int32).toInt = 0 := rfl
      have e2 : (2 : Int32).toInt = 2 := rfl
      have c2 : ¬ (¬ x.toInt < 0 ∧ ¬ 2 < x.toInt) := fun q => c ⟨by rw [fa_lt, e0]; exact q.1, by rw [fa_lt, e2]; exact q.2⟩
      omega)
    rw [e]
    exact ev_fg [false, false] rfl (s_X_count_14 this)
theorem mq_count (hA : InvA B F S n cd) (h : ro B I) (x : Int32) (hq : ∀ J, ro B J → Q (.inl (some (.int (cntV B x)))) J T) : ev E 335 0 [some (.ref 46), some (.int x)] [] I T Q := by
  refine s_M_count_0 ?_
  unfold t_M_count_0 t_M_count_21
  have := hq _ (h.trans (ro_thrown I 0))
  unfold cntV at this
  obtain ⟨w, -, w2, w3, -⟩ := hA.2.2.1
  obtain ⟨m, -, m2, m3, -⟩ := hA.2.2.2.1
  obtain ⟨-, t, -, t2, t3, -⟩ := hA.2.2.2.2.1
  rw [w2, ← w3, m2, ← m3, t2, ← t3, ← h.2.2 36 (by decide) (by decide) (by decide) (by decide), ← h.2.2 34 (by decide) (by decide) (by decide) (by decide), ← h.2.2 1 (by decide) (by decide) (by decide) (by decide)] at this
  refine ⟨fun q => ?_, fun q => ⟨fun q2 => ?_, fun q2 => ⟨fun q3 => ?_, fun q3 => ?_⟩⟩⟩
  · rw [if_pos q] at this; exact this
  · rw [if_neg q, if_pos q2] at this; exact this
  · rw [if_neg q, if_neg q2, if_pos q3] at this; exact this
  · rw [if_neg q, if_neg q2, if_neg q3] at this; exact this
theorem o_count : op_ok Inv E t_W_main_1526 := by
  intro I T Q i m hI hT hm hi hL hn
  have hG := TI_g hT hm
  obtain ⟨F, S, n, cd, hA⟩ := hI
  unfold t_W_main_1526
  generalize E.2.2 (nI i + 1).toNatClampNeg = a1
  refine ⟨gsc 1 hi hL (by decide), ?_⟩
  refine xq_count hA a1 (fun J hJ => ?_)
  refine ⟨gsc 1 hi hL (by decide), ?_⟩
  exact mq_count hA hJ a1 (fun K hK => bq_t rfl (hn K _ ⟨F, S, n, cd, hA.ro hK⟩ (TI_s hT)))
def toldV (B : II) (F n : Nat) (cd : Nat → Nat × Int32) (j : Nat) : Int32 := [B 3 5, B 3 6, B 29 24, B 29 25, bits (B 29) F, strB B F n cd, tltB B F n cd, B 29 28, B 29 27, B 29 26, B 20 2, B 0 13].getD j (B 3 7)
theorem q_howOften {k : Nat} (hk : k ≤ 2) (h : ro B I) (hq : Q (.inl (some (.int (B 29 (26 + k))))) I T) : ev E 184 0 [some (.ref 28), some (.int (nI k))] [] I T Q := by
  refine s_Coach_howOften_28_0 ?_
  unfold t_Coach_howOften_28_0 t_Coach_howOften_28_13
  refine q_within _ _ _ ?_
  rw [show wI (nI k) 0 2 = 1 from wI_n (b := 2) hk (by decide)]
  refine bq_f (by decide) ?_
  rw [z26]
  refine ⟨gix (by omega) (by omega), ?_⟩
  rw [nI_clamp (by omega), h.cell (c := 29) (by decide)]
  exact hq
theorem xq_told (hA : InvA B F S n cd) (hT : TG T) {j : Nat} (hj : j ≤ 12) (hq : ∀ J, ro B J → Q (.inl (some (.int (toldV B F n cd j)))) J T) : ev E 181 0 [some (.ref 0), some (.int (nI j))] [] B T Q := by
  have hC := hA.1
  have h8 := hC.F8
  have h6 := hC.S6
  refine s_X_told_0 ?_
  unfold t_X_told_0
  refine q_within _ _ _ ?_
  rw [show wI (nI j) 0 12 = 1 from wI_n (b := 12) hj (by decide)]
  refine q_need hT _ (fun _ => ?_) (fun q => absurd q (by decide))
  match j, hj with
  | 0, _ => exact ev_fg [true, false] rfl (s_X_told_8 (hq B (ro.refl B)))
  | 1, _ => exact ev_fg [true, false] rfl (s_X_told_12 (hq B (ro.refl B)))
  | 2, _ => exact ev_fg [true, false] rfl (s_X_told_16 (q_day (ro.refl B) (hq B (ro.refl B))))
  | 3, _ => exact ev_fg [true, false] rfl (s_X_told_20 (q_behind (ro.refl B) (hq B (ro.refl B))))
  | 4, _ => exact ev_fg [true, false] rfl (s_X_told_24 (q_bits hC (ro.refl B) (hq B (ro.refl B))))
  | 5, _ => exact ev_fg [true, false] rfl (s_X_told_28 (q_strength hC (ro.refl B) (fun J hJ => hq J hJ)))
  | 6, _ => exact ev_fg [true, false] rfl (s_X_told_32 (q_tilt hC (ro.refl B) (fun J hJ => hq J hJ)))
  | 7, _ => exact ev_fg [true, false] rfl (s_X_told_36 (q_howOften (k := 2) (by decide) (ro.refl B) (hq B (ro.refl B))))
  | 8, _ => exact ev_fg [true, false] rfl (s_X_told_41 (q_howOften (k := 1) (by decide) (ro.refl B) (hq B (ro.refl B))))
  | 9, _ => exact ev_fg [true, false] rfl (s_X_told_46 (q_howOften (k := 0) (by decide) (ro.refl B) (hq B (ro.refl B))))
  | 10, _ => exact ev_fg [true, false] rfl (s_X_told_51 (hq B (ro.refl B)))
  | 11, _ => exact ev_fg [true, false] rfl (s_X_told_55 (hq B (ro.refl B)))
  | 12, _ => exact ev_fg [true, false] rfl (s_X_told_58 (hq B (ro.refl B)))
theorem qm_pulls' (hI : Core B F S n cd) (h : ro B I) (h0 : I 46 0 = 0) (hq : ∀ J, ro B J → J 46 0 = 0 → Q (.inl (some (.int (strB B F n cd)))) J T) : ev E 156 0 [some (.ref 46), some (.ref 508), some (.int 1), none, none, none, none] [] I T Q := by
  refine p_pulls_508 (hI.2.1.ro h) (hI.lr.ro h) (ro_plc hI h) 1 true ⟨fun q => absurd q (by decide), fun q => by cases q⟩ (fun J hJ => ?_)
  rw [if_pos rfl, sidesM_B hI h]
  exact hq J (h.trans (hJ.ro sub_scc3)) (by rw [hJ 46 (by decide)]; exact h0)
theorem qm_tilt' (hI : Core B F S n cd) (h : ro B I) (h0 : I 46 0 = 0) (hq : ∀ J, ro B J → J 46 0 = 0 → Q (.inl (some (.int (tltB B F n cd)))) J T) : ev E 164 0 [some (.ref 46), some (.ref 508), none] [] I T Q := by
  refine p_tiltOf_508 (hI.2.1.ro h) (hI.lr.ro h) (ro_plc hI h) (fun J hJ => ?_)
  rw [sidesM_B hI h]
  exact hq J (h.trans (hJ.ro sub_scc3)) (by rw [hJ 46 (by decide)]; exact h0)
theorem qm_force' (hI : Core B F S n cd) (h : ro B I) (h0 : I 46 0 = 0) {f : Nat} (hf : f < F) (p z : Int32) (hq : ∀ J, ro B J → J 46 0 = 0 → Q (.inl (some (.int (frA B n cd f p z)))) J T) : ev E 158 0 [some (.ref 46), some (.ref 508), some (.int (nI f)), some (.int p), some (.int z)] [] I T Q := by
  have h8 := hI.F8
  refine p_mforceOf_508 (hI.lr.ro h) (by omega) p z (fun J hJ => ?_)
  obtain ⟨e1, e2, -⟩ := hI.fe hf
  rw [h.cell (c := 508) (by decide), h.cell (c := 61 + f) (scr_rng (a := 61) (b := 69) (by omega) (by omega) (by decide)), e1, e2, hI.q (by omega), hI.q (by omega), hI.q (by omega), hI.q (by omega)]
  exact hq J (h.trans (hJ.ro sub_scc3)) (by rw [hJ 46 (by decide)]; exact h0)
theorem mq_told (hA : InvA B F S n cd) (h : ro B I) {j : Nat} (hj : j ≤ 12) (hq : ∀ J, ro B J → J 46 0 = 0 → Q (.inl (some (.int (toldV B F n cd j)))) J T) : ev E 185 0 [some (.ref 46), some (.int (nI j))] [] I T Q := by
  have hC := hA.1
  have h8 := hC.F8
  have h6 := hC.S6
  have hI : ro B (m_up I 46 0 0) := h.trans (ro_thrown I 0)
  have h0 : (m_up I 46 0 0) 46 0 = 0 := rfl
  refine s_M_told_0 ?_
  unfold t_M_told_0 t_M_told_12
  refine q_in _ _ _ ?_
  rw [show wI (nI j) 0 12 = 1 from wI_n (b := 12) hj (by decide)]
  refine bq_f (by decide) ?_
  refine qm_bad0 rfl _ _ ?_
  refine bq_t rfl ?_
  have e508 : (m_up I 46 0 0) 508 = B 508 := hI.cell (c := 508) (by decide)
  have e50 : (m_up I 46 0 0) 50 = B 50 := hI.cell (c := 50) (by decide)
  obtain ⟨t1, t2, t3, t4⟩ := hC.2.2.2.2.2.2.1
  have z := hq _ hI h0
  match j, hj with
  | 0, _ => exact s_M_told_20 ⟨⟨by decide, by decide⟩, by rw [e50]; show Q (.inl (some (.int (B 50 0)))) _ T; rw [hC.2.1.1, ← hC.1.1]; exact z⟩
  | 1, _ => exact s_M_told_20 ⟨⟨by decide, by decide⟩, by rw [e50]; show Q (.inl (some (.int (B 50 1)))) _ T; rw [hC.2.1.2.2.1, ← hC.1.2.2.1]; exact z⟩
  | 2, _ => exact ev_fg [true, false] rfl (s_M_told_25 (by unfold t_M_told_25; rw [e508, hC.q (by decide)]; exact z))
  | 3, _ => exact ev_fg [true, false] rfl (s_M_told_30 (by unfold t_M_told_30; rw [e508, hC.q (by decide)]; exact z))
  | 4, _ => exact ev_fg [true, false] rfl (s_M_told_35 (qm_bits hC hI z))
  | 5, _ => exact ev_fg [true, false] rfl (s_M_told_40 (qm_pulls' hC hI h0 (fun J hJ h9 => hq J hJ h9)))
  | 6, _ => exact ev_fg [true, false] rfl (s_M_told_46 (qm_tilt' hC hI h0 (fun J hJ h9 => hq J hJ h9)))
  | 7, _ => exact ev_fg [true, false] rfl (s_M_told_51 (by unfold t_M_told_51; rw [e508, t2]; exact z))
  | 8, _ => exact ev_fg [true, false] rfl (s_M_told_56 (by unfold t_M_told_56; rw [e508, t3]; exact z))
  | 9, _ => exact ev_fg [true, false] rfl (s_M_told_61 (by unfold t_M_told_61; rw [e508, t4]; exact z))
  | 10, _ => exact ev_fg [true, false] rfl (s_M_told_66 (by
      unfold t_M_told_66
      obtain ⟨k, -, k2, k3, -⟩ := hA.2.1
      rw [hI.2.2 33 (by decide) (by decide) (by decide) (by decide), k3, ← k2]
      exact z))
  | 11, _ => exact ev_fg [true, false] rfl (s_M_told_69 (by
      unfold t_M_told_69
      rw [hI.2.2 35 (by decide) (by decide) (by decide) (by decide), ← hA.2.2.2.2.2.1.1]
      exact z))
  | 12, _ => exact ev_fg [true, false] rfl (s_M_told_72 (by unfold t_M_told_72; rw [e50, hC.br]; exact z))
theorem xq_told_b0 (hA : InvA B F S n cd) (hT : TG T) {a1 : Int32} (c : ¬ okW a1 0 12) (hq : Q (.inr 1) (m_up B 0 15 (B 0 15 + 1)) (TX T)) : ev E 181 0 [some (.ref 0), some (.int (a1))] [] B T Q := by
  refine s_X_told_0 ?_
  unfold t_X_told_0
  refine q_within _ _ _ ?_
  rw [wI_f c]
  exact q_need hT _ (fun q => absurd rfl q) (fun _ => hq)
theorem mq_told_b0 (hm : mN I F S) {a1 : Int32} (c : ¬ okW a1 0 12) (hq : ∀ v J, ro (m_up I 48 1 (I 48 1 + 1)) J → J 46 0 = 1 → Q (.inl (some (.int v))) J T) : ev E 185 0 [some (.ref 46), some (.int (a1))] [] I T Q := by
  have hm2 : mN (m_up I 46 0 0) F S := hm
  refine s_M_told_0 ?_
  unfold t_M_told_0 t_M_told_12
  refine q_in _ _ _ ?_
  rw [wI_f c]
  refine bq_t rfl ?_
  refine qm_bad1 (j := 1) rfl (by decide) (by decide) ?_
  refine bq_f (by decide) ?_
  exact hq _ _ (ro_bad I _ _) rfl

theorem o_told : op_ok Inv E t_W_main_236 := by
  intro I T Q i m hI hT hm hi hL hn
  have hG := TI_g hT hm
  obtain ⟨F, S, n, cd, hA⟩ := hI
  unfold t_W_main_236
  generalize E.2.2 (nI i + 1).toNatClampNeg = a1
  refine ⟨gsc 1 hi hL (by decide), ?_⟩
  refine s_W_told_0 ?_
  unfold t_W_told_0 t_W_told_9
  by_cases c0 : okW a1 0 12
  · obtain ⟨j, hj, rfl⟩ := okW_nat (k := 12) (by decide) c0
    refine xq_told hA hG hj (fun J hJ => ?_)
    exact ⟨gsc 1 hi hL (by decide), mq_told hA hJ hj (fun K hK h0 => fin_ok h0 (fun _ => rfl) (hn K _ ⟨F, S, n, cd, hA.ro hK⟩ (TI_s hT)))⟩
  · refine xq_told_b0 hA hG  c0 ?_
    refine ⟨rfl, ?_⟩
    exact ⟨gsc 1 hi hL (by decide), mq_told_b0 (F := F) (S := S) (show mN (m_up I 0 15 (I 0 15 + 1)) F S from hA.1.2.1)  c0 (fun v J hJ h0 => fin_ok h0 (fun q => absurd q (by decide)) (hn J _ (Inv_thr (x := 1) (by decide) ⟨F, S, n, cd, hA⟩ rfl (ro.refl _) hJ) (TI_x hT)))⟩
def feelV (B : II) (f j : Nat) : Int32 := [B 4 f, B 5 f, B 29 f, B 29 (8 + f), B 29 (16 + f)].getD j (B 6 f)
theorem xq_feeling (hA : InvA B F S n cd) (hT : TG T) {f : Nat} (hf : f < F) {j : Nat} (hj : j ≤ 5) (hq : ∀ J, ro B J → Q (.inl (some (.int (feelV B f j)))) J T) : ev E 187 0 [some (.ref 0), some (.int (nI f)), some (.int (nI j))] [] B T Q := by
  have hC := hA.1
  have h8 := hC.F8
  have h6 := hC.S6
  refine s_X_feeling_0 ?_
  unfold t_X_feeling_0
  refine q_needF hA.1.1 hT _ (fun _ => ?_) (fun q => absurd ⟨f, hf, rfl⟩ q)
  refine q_within _ _ _ ?_
  rw [show wI (nI j) 0 5 = 1 from wI_n (b := 5) hj (by decide)]
  refine q_need hT _ (fun _ => ?_) (fun q => absurd q (by decide))
  match j, hj with
  | 0, _ => exact ev_fg [true, true, false] rfl (s_X_feeling_11 (q_pull hC (ro.refl B) hf (hq B (ro.refl B))))
  | 1, _ => exact ev_fg [true, true, false] rfl (s_X_feeling_16 (q_calm hC (ro.refl B) hf (hq B (ro.refl B))))
  | 2, _ => exact ev_fg [true, true, false] rfl (s_X_feeling_21 (q_place hC (ro.refl B) hf (hq B (ro.refl B))))
  | 3, _ => exact ev_fg [true, true, false] rfl (s_X_feeling_26 (q_tight hC (ro.refl B) hf (hq B (ro.refl B))))
  | 4, _ => exact ev_fg [true, true, false] rfl (s_X_feeling_31 (q_tired hC (ro.refl B) hf (hq B (ro.refl B))))
  | 5, _ => exact ev_fg [true, true, false] rfl (s_X_feeling_36 (q_foes hC (ro.refl B) hf (hq B (ro.refl B))))
theorem mq_feeling (hC : Core B F S n cd) (h : ro B I) {f : Nat} (hf : f < F) {j : Nat} (hj : j ≤ 5) (hq : ∀ J, ro B J → J 46 0 = 0 → Q (.inl (some (.int (feelV B f j)))) J T) : ev E 189 0 [some (.ref 46), some (.int (nI f)), some (.int (nI j))] [] I T Q := by
  have h8 := hC.F8
  have h6 := hC.S6
  have hI : ro B (m_up I 46 0 0) := h.trans (ro_thrown I 0)
  have h0 : (m_up I 46 0 0) 46 0 = 0 := rfl
  refine s_M_feeling_0 ?_
  unfold t_M_feeling_0 t_M_feeling_11 t_M_feeling_24 t_M_feeling_28 t_M_feeling_74
  refine qm_isFeeling (hC.2.1.ro hI) _ ?_
  rw [wI_t ((okW_lt (hC.2.1.ro hI).2.1).mpr ⟨f, hf, rfl⟩)]
  refine bq_f (by decide) ?_
  refine qm_bad0 rfl _ _ ?_
  refine bq_t rfl ?_
  refine q_in _ _ _ ?_
  rw [show wI (nI j) 0 5 = 1 from wI_n (b := 5) hj (by decide)]
  refine bq_f (by decide) ?_
  refine qm_bad0 rfl _ _ ?_
  refine bq_t rfl ?_
  have e508 : (m_up I 46 0 0) 508 = B 508 := hI.cell (c := 508) (by decide)
  have e84 : (m_up I 46 0 0) 84 = B 84 := hI.cell (c := 84) (by decide)
  have e61 : (m_up I 46 0 0) (61 + f) = B (61 + f) := hI.cell (scr_rng (a := 61) (b := 69) (by omega) (by omega) (by decide))
  obtain ⟨t1, t2, t3, -⟩ := hC.fe hf
  have z := hq _ hI h0
  have gf : ¬ nI f < 0 ∧ f < 8 := ⟨nI_pos (by omega), by omega⟩
  rw [z0, z8, z16, nI_clamp (show f < 2 ^ 31 by omega), nI_clamp (show 8 + f < 2 ^ 31 by omega), nI_clamp (show 16 + f < 2 ^ 31 by omega)]
  have g0 : ¬ nI f < 0 ∧ f < 29 := ⟨nI_pos (by omega), by omega⟩
  have g8 : ¬ nI (8 + f) < 0 ∧ 8 + f < 29 := ⟨nI_pos (by omega), by omega⟩
  have g16 : ¬ nI (16 + f) < 0 ∧ 16 + f < 29 := ⟨nI_pos (by omega), by omega⟩
  match j, hj with
  | 0, _ => exact bq_f (by decide) ⟨gf, ⟨by decide, by decide⟩, by rw [e61]; show Q (.inl (some (.int (B (61 + f) 0)))) _ T; rw [t1]; exact z⟩
  | 1, _ => exact bq_f (by decide) ⟨gf, ⟨by decide, by decide⟩, by rw [e61]; show Q (.inl (some (.int (B (61 + f) 1)))) _ T; rw [t2]; exact z⟩
  | 2, _ => exact bq_t (by decide) (bq_t rfl ⟨g0, by rw [e508, hC.q (by omega)]; exact z⟩)
  | 3, _ => exact bq_t (by decide) (bq_f (by decide) (bq_t rfl ⟨g8, by rw [e508, hC.q (by omega)]; exact z⟩))
  | 4, _ => exact bq_t (by decide) (bq_f (by decide) (bq_f (by decide) (bq_t rfl ⟨g16, by rw [e508, hC.q (by omega)]; exact z⟩)))
  | 5, _ => exact bq_t (by decide) (bq_f (by decide) (bq_f (by decide) (bq_f (by decide) ⟨gf, by rw [e84, t3]; exact z⟩)))
theorem xq_feeling_b0 (hA : InvA B F S n cd) (hT : TG T) {a1 : Int32} {a2 : Int32} (c : ¬ ∃ f, f < F ∧ a1 = nI f) (hq : Q (.inr 0) (m_up B 0 14 (B 0 14 + 1)) (TX T)) : ev E 187 0 [some (.ref 0), some (.int (a1)), some (.int (a2))] [] B T Q := by
  refine s_X_feeling_0 ?_
  unfold t_X_feeling_0
  exact q_needF hA.1.1 hT _ (fun q => absurd q c) (fun _ => hq)
theorem mq_feeling_b0 (hm : mN I F S) {a1 : Int32} {a2 : Int32} (c : ¬ ∃ f, f < F ∧ a1 = nI f) (hq : ∀ v J, ro (m_up I 48 0 (I 48 0 + 1)) J → J 46 0 = 1 → Q (.inl (some (.int v))) J T) : ev E 189 0 [some (.ref 46), some (.int (a1)), some (.int (a2))] [] I T Q := by
  have hm2 : mN (m_up I 46 0 0) F S := hm
  refine s_M_feeling_0 ?_
  unfold t_M_feeling_0 t_M_feeling_11 t_M_feeling_24 t_M_feeling_28 t_M_feeling_74
  refine qm_isFeeling hm2 _ ?_
  rw [wI_f (fun q => c ((okW_lt hm.2.1).mp q))]
  refine bq_t rfl ?_
  refine qm_bad1 (j := 0) rfl (by decide) (by decide) ?_
  refine bq_f (by decide) ?_
  exact hq _ _ (ro_bad I _ _) rfl
theorem xq_feeling_b1 (hA : InvA B F S n cd) (hT : TG T) {f : Nat} (hf : f < F) {a2 : Int32} (c : ¬ okW a2 0 5) (hq : Q (.inr 1) (m_up B 0 15 (B 0 15 + 1)) (TX T)) : ev E 187 0 [some (.ref 0), some (.int (nI f)), some (.int (a2))] [] B T Q := by
  refine s_X_feeling_0 ?_
  unfold t_X_feeling_0
  refine q_needF hA.1.1 hT _ (fun _ => ?_) (fun q => absurd ⟨f, hf, rfl⟩ q)
  refine q_within _ _ _ ?_
  rw [wI_f c]
  exact q_need hT _ (fun q => absurd rfl q) (fun _ => hq)
theorem mq_feeling_b1 (hm : mN I F S) {f : Nat} (hf : f < F) {a2 : Int32} (c : ¬ okW a2 0 5) (hq : ∀ v J, ro (m_up I 48 1 (I 48 1 + 1)) J → J 46 0 = 2 → Q (.inl (some (.int v))) J T) : ev E 189 0 [some (.ref 46), some (.int (nI f)), some (.int (a2))] [] I T Q := by
  have hm2 : mN (m_up I 46 0 0) F S := hm
  refine s_M_feeling_0 ?_
  unfold t_M_feeling_0 t_M_feeling_11 t_M_feeling_24 t_M_feeling_28 t_M_feeling_74
  refine qm_isFeeling (hm2) _ ?_
  rw [wI_t ((okW_lt (hm2).2.1).mpr ⟨f, hf, rfl⟩)]
  refine bq_f (by decide) ?_
  refine qm_bad0 rfl _ _ ?_
  refine bq_t rfl ?_
  refine q_in _ _ _ ?_
  rw [wI_f c]
  refine bq_t rfl ?_
  refine qm_bad1 (j := 1) rfl (by decide) (by decide) ?_
  refine bq_f (by decide) ?_
  exact hq _ _ (ro_bad I _ _) rfl

theorem o_feeling : op_ok Inv E t_W_main_271 := by
  intro I T Q i m hI hT hm hi hL hn
  have hG := TI_g hT hm
  obtain ⟨F, S, n, cd, hA⟩ := hI
  unfold t_W_main_271
  generalize E.2.2 (nI i + 1).toNatClampNeg = a1
  generalize E.2.2 (nI i + 2).toNatClampNeg = a2
  refine ⟨gsc 1 hi hL (by decide), gsc 2 hi hL (by decide), ?_⟩
  refine s_W_feeling_0 ?_
  unfold t_W_feeling_0 t_W_feeling_13 t_W_feeling_10
  by_cases c0 : ∃ f, f < F ∧ a1 = nI f
  · obtain ⟨f, hf, rfl⟩ := c0
    by_cases c1 : okW a2 0 5
    · obtain ⟨j, hj, rfl⟩ := okW_nat (k := 5) (by decide) c1
      refine xq_feeling hA hG hf hj (fun J hJ => ?_)
      exact ⟨gsc 1 hi hL (by decide), gsc 2 hi hL (by decide), mq_feeling hA.1 hJ hf hj (fun K hK h0 => fin_ok h0 (fun _ => rfl) (hn K _ ⟨F, S, n, cd, hA.ro hK⟩ (TI_s hT)))⟩
    · refine xq_feeling_b1 hA hG hf c1 ?_
      refine Or.inr ⟨rfl, ?_⟩
      exact ⟨gsc 1 hi hL (by decide), gsc 2 hi hL (by decide), mq_feeling_b1 (F := F) (S := S) (show mN (m_up I 0 15 (I 0 15 + 1)) F S from hA.1.2.1) hf c1 (fun v J hJ h0 => fin_ok h0 (fun q => absurd q (by decide)) (hn J _ (Inv_thr (x := 1) (by decide) ⟨F, S, n, cd, hA⟩ rfl (ro.refl _) hJ) (TI_x hT)))⟩
  · refine xq_feeling_b0 hA hG  c0 ?_
    refine Or.inl ⟨rfl, ?_⟩
    exact ⟨gsc 1 hi hL (by decide), gsc 2 hi hL (by decide), mq_feeling_b0 (F := F) (S := S) (show mN (m_up I 0 14 (I 0 14 + 1)) F S from hA.1.2.1)  c0 (fun v J hJ h0 => fin_ok h0 (fun q => absurd q (by decide)) (hn J _ (Inv_thr (x := 0) (by decide) ⟨F, S, n, cd, hA⟩ rfl (ro.refl _) hJ) (TI_x hT)))⟩
end OPA
