/-! ===== swap ===== -/
theorem who_cases {r : Nat → Int32} {p : Int32} : ∀ (d f : Nat), (whoAt r p d f = -1 ∧ ∀ g, f ≤ g → g < f + d → r g ≠ p) ∨ ∃ g, f ≤ g ∧ g < f + d ∧ whoAt r p d f = nI g ∧ r g = p
  | 0, f => Or.inl ⟨rfl, fun g h1 h2 => by omega⟩
  | d + 1, f => by
    rw [whoAt]
    by_cases c : r f = p
    · rw [if_pos c]; exact Or.inr ⟨f, Nat.le_refl _, by omega, rfl, c⟩
    · rw [if_neg c]
      rcases who_cases (r := r) (p := p) d (f + 1) with ⟨a, b⟩ | ⟨g, g1, g2, g3⟩
      · refine Or.inl ⟨a, fun g h1 h2 => ?_⟩
        by_cases e : g = f
        · subst e; exact c
        · exact b g (by omega) (by omega)
      · exact Or.inr ⟨g, by omega, by omega, g3⟩
/-- two places change what they have -/
def swR (r : Nat → Int32) (F a b : Nat) : Nat → Int32 := fun j => if j < F then (if r j = nI a then nI b else if r j = nI b then nI a else r j) else r j
theorem swR_plc {r : Nat → Int32} {F a b : Nat} (ha : a < 4) (hb : b < 4) (h : plc r F) : plc (swR r F a b) F := fun f hf => by
  unfold swR
  rw [if_pos hf]
  split
  · exact Or.inr ⟨b, hb, rfl⟩
  · split
    · exact Or.inr ⟨a, ha, rfl⟩
    · exact h f hf
section SWP
variable {E : MEnv} {B I : II} {T : TT} {Q : QQ} {F S n : Nat} {cd : Nat → Nat × Int32} {r q : Nat → Int32}
theorem p_setPlace_m (v : Int32) (hq : Q (.inl none) I T) : ev E 117 0 [some (.ref 30), some (.int (-1)), some (.int v)] [] I T Q := by
  refine s_Coach_setPlace_30_0 ?_
  unfold t_Coach_setPlace_30_0 t_Coach_setPlace_30_12
  refine p_isFeeling_m ?_
  exact bq_t rfl hq
theorem ra_change (hC : Core B F S n cd) (h : ro B I) (hr : agr (I 31) (B 29)) {a b : Nat} (ha : a < 4) (hb : b < 4) (hab : a ≠ b) (hq : ∀ J, ro B J → agr (J 31) (swR (B 29) F a b) → Q (.inl none) J T) : ev E 245 0 [some (.ref 30), some (.int (nI a)), some (.int (nI b)), none, none] [] I T Q := by
  have h8 := hC.F8
  have hd := hC.rv.2.1
  have hne : nI a ≠ nI b := fun e => hab ((nI_eq (by omega) (by omega)).mp e)
  have ma : nI a ≠ -1 := nI_m1 (by omega)
  have mb : nI b ≠ -1 := nI_m1 (by omega)
  refine s_Coach_change_30_0 ?_
  unfold t_Coach_change_30_0
  refine p_whoIsAt_30 (hC.1.ro h) _ ?_
  rw [whoAt_congr (q := B 29) _ F 0 (fun g _ hg => hr g (by omega))]
  refine p_whoIsAt_30 (hC.1.ro h) _ ?_
  rw [whoAt_congr (q := B 29) (nI b) F 0 (fun g _ hg => hr g (by omega))]
  have uni : ∀ g j p, g < F → j < F → B 29 g = nI p → nI p ≠ -1 → B 29 j = nI p → j = g := fun g j p hg hj e1 e2 e3 => by
    by_cases c : g = j
    · exact c.symm
    · exact absurd (e1.trans e3.symm) (hd g j hg hj c (by rw [e1]; exact e2))
  rcases who_cases (r := B 29) (p := nI a) F 0 with ⟨a1, a2⟩ | ⟨g, -, g2, g3, g4⟩
  · rw [a1]
    refine p_setPlace_m _ ?_
    rcases who_cases (r := B 29) (p := nI b) F 0 with ⟨b1, b2⟩ | ⟨k, -, k2, k3, k4⟩
    · rw [b1]
      refine p_setPlace_m _ ?_
      refine hq I h (fun j hj => ?_)
      rw [hr j hj]
      unfold swR
      by_cases c : j < F
      · rw [if_pos c, if_neg (a2 j (by omega) (by omega)), if_neg (b2 j (by omega) (by omega))]
      · rw [if_neg c]
    · rw [k3]
      refine ra_setPlace hC h hr (by omega) _ (fun J hJ hj => ?_)
      refine hq J hJ (fun j hj2 => ?_)
      rw [hj j hj2]
      unfold swR
      by_cases e : j = k
      · subst e
        rw [upd_at, if_pos (by omega), if_neg (fun z => hne (z.symm.trans k4)), if_pos k4]
      · rw [upd_ne e]
        by_cases c : j < F
        · rw [if_pos c, if_neg (a2 j (by omega) (by omega)), if_neg (fun z => e (uni k j b (by omega) c k4 mb z))]
        · rw [if_neg c]
  · rw [g3]
    refine ra_setPlace hC h hr (by omega) _ (fun J hJ hj => ?_)
    rcases who_cases (r := B 29) (p := nI b) F 0 with ⟨b1, b2⟩ | ⟨k, -, k2, k3, k4⟩
    · rw [b1]
      refine p_setPlace_m _ ?_
      refine hq J hJ (fun j hj2 => ?_)
      rw [hj j hj2]
      unfold swR
      by_cases e : j = g
      · subst e
        rw [upd_at, if_pos (by omega), if_pos g4]
      · rw [upd_ne e]
        by_cases c : j < F
        · rw [if_pos c, if_neg (fun z => e (uni g j a (by omega) c g4 ma z)), if_neg (b2 j (by omega) (by omega))]
        · rw [if_neg c]
    · rw [k3]
      refine ra_setPlace hC hJ hj (by omega) _ (fun K hK hk => ?_)
      refine hq K hK (fun j hj2 => ?_)
      rw [hk j hj2]
      unfold swR
      by_cases e2 : j = k
      · subst e2
        rw [upd_at, if_pos (by omega), if_neg (fun z => hne (z.symm.trans k4)), if_pos k4]
      · rw [upd_ne e2]
        by_cases e : j = g
        · subst e
          rw [upd_at, if_pos (by omega), if_pos g4]
        · rw [upd_ne e]
          by_cases c : j < F
          · rw [if_pos c, if_neg (fun z => e (uni g j a (by omega) c g4 ma z)), if_neg (fun z => e2 (uni k j b (by omega) c k4 mb z))]
          · rw [if_neg c]
def swp (B : II) (F n : Nat) (cd : Nat → Nat × Int32) (a b : Nat) (s : Int32 × Int32) : Int32 × Int32 := if s.1 ≤ tlR B F n cd (swR (B 29) F a b) then s else (tlR B F n cd (swR (B 29) F a b), 10 * nI a + nI b)
def swF (j : Nat) (s : Int32 × Int32) : Int32 := if j = 0 then s.2 else if s.2 = -1 then s.2 else s.1
theorem l_xsw2 (hC : Core B F S n cd) {j a : Nat} (ha : a < 4) : ∀ (d b : Nat) (s : Int32 × Int32) (I : II), ro B I → a < b → b + d = 4 → (∀ J, ro B J → t_X_swap_14 E J T Q (nI j) (rep (swp B F n cd a) d b s).1 (rep (swp B F n cd a) d b s).2 (nI (a + 1))) → t_X_swap_21 E I T Q (nI j) s.1 s.2 (nI a) (nI b)
  | 0, b, s, I, h, hab, hb, hq => by
    unfold t_X_swap_21
    rw [nI_1 a]
    exact bq_t (nI_le (a := 4) (b := b) (by omega) (by omega)) (s_X_swap_14 (hq I h))
  | d + 1, b, s, I, h, hab, hb, hq => by
    unfold t_X_swap_21 t_X_swap_49
    refine bq_f (nI_ge (a := b) (b := 4) (by omega) (by omega)) ?_
    refine ra_copy h (fun J hJ hj => ?_)
    refine ra_change hC hJ hj ha (by omega) (by omega) (fun K hK hk => ?_)
    refine ra_tilt hC hK hk (fun L hL hl => ?_)
    rw [nI_1 b]
    rw [rep] at hq
    refine ⟨fun q => ?_, fun q => ?_⟩
    · have e : swp B F n cd a b s = s := if_pos q
      rw [e] at hq
      exact s_X_swap_21 (l_xsw2 hC ha d (b + 1) s L hL (by omega) (by omega) hq)
    · have e : swp B F n cd a b s = (tlR B F n cd (swR (B 29) F a b), 10 * nI a + nI b) := if_neg q
      rw [e] at hq
      exact s_X_swap_21 (l_xsw2 hC ha d (b + 1) (tlR B F n cd (swR (B 29) F a b), 10 * nI a + nI b) L hL (by omega) (by omega) hq)
theorem l_xsw1 (hC : Core B F S n cd) {j : Nat} (hj : j ≤ 1) : ∀ (d a : Nat) (s : Int32 × Int32) (I : II), ro B I → a + d = 4 → (∀ J, ro B J → Q (.inl (some (.int (swF j (rep (fun a s => rep (swp B F n cd a) (3 - a) (a + 1) s) d a s))))) J T) → t_X_swap_14 E I T Q (nI j) s.1 s.2 (nI a)
  | 0, a, s, I, h, ha, hq => by
    unfold t_X_swap_14 t_X_swap_58 t_X_swap_61
    refine bq_t (nI_le (a := 4) (b := a) (by omega) (by omega)) ?_
    have z := hq I h
    match j, hj with
    | 0, _ => exact bq_t rfl z
    | 1, _ =>
      refine bq_f (by decide) ⟨fun q => ?_, fun q => ?_⟩
      · have e : swF 1 s = s.2 := by unfold swF; rw [if_neg (by decide), if_pos q]
        rw [← e]; exact z
      · have e : swF 1 s = s.1 := by unfold swF; rw [if_neg (by decide), if_neg q]
        rw [← e]; exact z
  | d + 1, a, s, I, h, ha, hq => by
    unfold t_X_swap_14
    refine bq_f (nI_ge (a := a) (b := 4) (by omega) (by omega)) ?_
    rw [nI_1]
    rw [rep] at hq
    exact l_xsw2 hC (by omega) (3 - a) (a + 1) s I h (by omega) (by omega) (fun J hJ => l_xsw1 hC hj d (a + 1) _ J hJ (by omega) hq)
theorem mt_tilt' (hC : Core B F S n cd) (h : ro B I) (h0 : I 46 0 = 0) (hW : plc r F) (hR : rowR r (I 509)) (hq : ∀ J, ro B J → J 46 0 = 0 → J 509 = I 509 → Q (.inl (some (.int (tlR B F n cd r)))) J T) : ev E 164 0 [some (.ref 46), some (.ref 509), none] [] I T Q := by
  have h8 := hC.F8
  refine p_tiltOf_509 (hC.2.1.ro h) (hC.lr.ro h) (fun f hf => by rw [hR.1 f (by omega)]; exact hW f hf) (fun J hJ => ?_)
  rw [sidesM_R hC h hR]
  exact hq J (h.trans (hJ.ro sub_scc3)) (by rw [hJ 46 (by decide)]; exact h0) (hJ 509 (by decide))
theorem l_msw3 (hC : Core B F S n cd) {j a b : Nat} (ha : a < 4) (hb : b < 4) (s : Int32 × Int32) (hq : ∀ J, ro B J → J 46 0 = 0 → t_M_swap_34 E J T Q (nI j) (swp B F n cd a b s).2 (swp B F n cd a b s).1 (nI a) (nI (b + 1))) : ∀ (d f : Nat) (I : II), ro B I → I 46 0 = 0 → f + d = F → (∀ i, i < 29 → I 509 i = if i < f then swR (B 29) F a b i else B 508 i) → t_M_swap_44 E I T Q (nI j) s.2 s.1 (nI a) (nI b) (nI f)
  | 0, f, I, h, h0, hf, hr => by
    have h8 := hC.F8
    have hR : rowR (swR (B 29) F a b) (I 509) := by
      obtain ⟨t1, t2, t3, t4⟩ := hC.2.2.2.2.2.2.1
      have hi : ∀ i, F ≤ i → swR (B 29) F a b i = B 29 i := fun i hi => if_neg (by omega)
      refine ⟨fun i hi2 => ?_, ?_, ?_, ?_⟩
      · rw [hr i (by omega)]
        by_cases c : i < f
        · rw [if_pos c]
        · rw [if_neg c, hi i (by omega)]; exact t1 i hi2
      · rw [hr 26 (by omega), if_neg (by omega), hi 28 (by omega)]; exact t2
      · rw [hr 27 (by omega), if_neg (by omega), hi 27 (by omega)]; exact t3
      · rw [hr 28 (by omega), if_neg (by omega), hi 26 (by omega)]; exact t4
    have hp := swR_plc ha hb hC.rv.1
    unfold t_M_swap_44 t_M_swap_102
    rw [(hC.2.1.ro h).1]
    refine bq_t (nI_le (by omega) (by omega)) ?_
    refine mt_tilt' hC h h0 hp hR (fun J hJ j0 ej => ?_)
    rw [nI_1 b]
    refine ⟨fun q => ?_, fun q => ?_⟩
    · refine mt_tilt' hC hJ j0 hp (by rw [ej]; exact hR) (fun K hK k0 _ => ?_)
      have e : swp B F n cd a b s = (tlR B F n cd (swR (B 29) F a b), 10 * nI a + nI b) := if_neg (fa_of_lt q).2.1
      rw [e] at hq
      exact s_M_swap_34 (hq K hK k0)
    · have e : swp B F n cd a b s = s := if_pos (fa_of_nlt q)
      rw [e] at hq
      exact s_M_swap_34 (hq J hJ j0)
  | d + 1, f, I, h, h0, hf, hr => by
    have h8 := hC.F8
    have e508 : I 508 = B 508 := h.cell (c := 508) (by decide)
    unfold t_M_swap_44 t_M_swap_81
    rw [(hC.2.1.ro h).1]
    refine bq_f (nI_ge (by omega) (by omega)) ?_
    rw [z0, nI_clamp (show f < 2 ^ 31 by omega), e508, hC.q (by omega), nI_1 f]
    have gf : ¬ nI f < 0 ∧ f < 29 := ⟨nI_pos (by omega), by omega⟩
    refine ⟨gf, ?_⟩
    have next : ∀ v, swR (B 29) F a b f = v → ev E 246 44 [some (.ref 46), some (.int (nI j)), some (.int s.2), some (.int s.1), some (.int (nI a)), some (.int (nI b)), some (.int (nI (f + 1)))] [] (m_up I 509 f v) T Q := by
      intro v hv
      refine s_M_swap_44 (l_msw3 hC ha hb s hq d (f + 1) _ (h.trans (ro_up I (by decide) _ _)) h0 (by omega) (fun i hi => ?_))
      rw [m_up_at]
      by_cases e : i = f
      · subst e; rw [if_pos rfl, if_pos (by omega)]; exact hv.symm
      · rw [if_neg e, hr i hi]
        by_cases c : i < f
        · rw [if_pos c, if_pos (by omega)]
        · rw [if_neg c, if_neg (by omega)]
    have hs : swR (B 29) F a b f = if B 29 f = nI a then nI b else if B 29 f = nI b then nI a else B 29 f := if_pos (by omega)
    refine ⟨fun q => ⟨gf, next _ ?_⟩, fun q => ⟨gf, fun q2 => ⟨gf, next _ ?_⟩, fun q2 => ⟨gf, gf, next _ ?_⟩⟩⟩
    · rw [hs, if_pos q]
    · rw [hs, if_neg q, if_pos q2]
    · rw [hs, if_neg q, if_neg q2]
theorem l_msw2 (hC : Core B F S n cd) {j a : Nat} (ha : a < 4) : ∀ (d b : Nat) (s : Int32 × Int32) (I : II), ro B I → I 46 0 = 0 → a < b → b + d = 4 → (∀ J, ro B J → J 46 0 = 0 → t_M_swap_27 E J T Q (nI j) (rep (swp B F n cd a) d b s).2 (rep (swp B F n cd a) d b s).1 (nI (a + 1))) → t_M_swap_34 E I T Q (nI j) s.2 s.1 (nI a) (nI b)
  | 0, b, s, I, h, h0, hab, hb, hq => by
    unfold t_M_swap_34
    rw [nI_1 a]
    exact bq_t (nI_le (a := 4) (b := b) (by omega) (by omega)) (s_M_swap_27 (hq I h h0))
  | d + 1, b, s, I, h, h0, hab, hb, hq => by
    unfold t_M_swap_34
    refine bq_f (nI_ge (a := b) (b := 4) (by omega) (by omega)) ?_
    refine mt_copy hC h h0 (fun J hJ j0 hj => ?_)
    rw [rep] at hq
    refine l_msw3 hC ha (by omega) s (fun K hK k0 => ?_) F 0 J hJ j0 (by omega) (fun i hi => by rw [if_neg (by omega)]; exact hj i hi)
    exact l_msw2 hC ha d (b + 1) _ K hK k0 (by omega) (by omega) hq
theorem l_msw1 (hC : Core B F S n cd) {j : Nat} (hj : j ≤ 1) : ∀ (d a : Nat) (s : Int32 × Int32) (I : II), ro B I → I 46 0 = 0 → a + d = 4 → (∀ J, ro B J → J 46 0 = 0 → Q (.inl (some (.int (swF j (rep (fun a s => rep (swp B F n cd a) (3 - a) (a + 1) s) d a s))))) J T) → t_M_swap_27 E I T Q (nI j) s.2 s.1 (nI a)
  | 0, a, s, I, h, h0, ha, hq => by
    unfold t_M_swap_27 t_M_swap_111 t_M_swap_114
    refine bq_t (nI_le (a := 4) (b := a) (by omega) (by omega)) ?_
    have z := hq I h h0
    match j, hj with
    | 0, _ => exact bq_t rfl z
    | 1, _ =>
      refine bq_f (by decide) ⟨fun q => ?_, fun q => ?_⟩
      · have e : swF 1 s = s.2 := by unfold swF; rw [if_neg (by decide), if_pos q]
        rw [← e]; exact z
      · have e : swF 1 s = s.1 := by unfold swF; rw [if_neg (by decide), if_neg q]
        rw [← e]; exact z
  | d + 1, a, s, I, h, h0, ha, hq => by
    unfold t_M_swap_27
    refine bq_f (nI_ge (a := a) (b := 4) (by omega) (by omega)) ?_
    rw [nI_1]
    rw [rep] at hq
    exact l_msw2 hC (by omega) (3 - a) (a + 1) s I h h0 (by omega) (by omega) (fun J hJ j0 => l_msw1 hC hj d (a + 1) _ J hJ j0 (by omega) hq)
theorem xq_swap (hA : InvA B F S n cd) (hT : TG T) {j : Nat} (hj : j ≤ 1) (hq : ∀ J, ro B J → Q (.inl (some (.int (swF j (rep (fun a s => rep (swp B F n cd a) (3 - a) (a + 1) s) 4 0 (tltB B F n cd, -1)))))) J T) : ev E 244 0 [some (.ref 0), some (.int (nI j)), none, none, none, none, none] [] B T Q := by
  have hC := hA.1
  have h8 := hC.F8
  have h6 := hC.S6
  refine s_X_swap_0 ?_
  unfold t_X_swap_0
  refine q_within _ _ _ ?_
  rw [show wI (nI j) 0 1 = 1 from wI_n (b := 1) hj (by decide)]
  refine q_need hT _ (fun _ => ?_) (fun q => absurd q (by decide))
  refine q_tilt hC (ro.refl B) (fun J hJ => ?_)
  exact l_xsw1 hC hj 4 0 (tltB B F n cd, -1) J hJ (by omega) hq
theorem mq_swap (hC : Core B F S n cd) (h : ro B I) {j : Nat} (hj : j ≤ 1) (hq : ∀ J, ro B J → J 46 0 = 0 → Q (.inl (some (.int (swF j (rep (fun a s => rep (swp B F n cd a) (3 - a) (a + 1) s) 4 0 (tltB B F n cd, -1)))))) J T) : ev E 246 0 [some (.ref 46), some (.int (nI j)), none, none, none, none, none] [] I T Q := by
  have h8 := hC.F8
  have h6 := hC.S6
  have hI : ro B (m_up I 46 0 0) := h.trans (ro_thrown I 0)
  have h0 : (m_up I 46 0 0) 46 0 = 0 := rfl
  refine s_M_swap_0 ?_
  unfold t_M_swap_0 t_M_swap_12
  refine q_in _ _ _ ?_
  rw [show wI (nI j) 0 1 = 1 from wI_n (b := 1) hj (by decide)]
  refine bq_f (by decide) ?_
  refine qm_bad0 rfl _ _ ?_
  refine bq_t rfl ?_
  refine qm_tilt' hC hI h0 (fun J hJ j0 => ?_)
  exact l_msw1 hC hj 4 0 (tltB B F n cd, -1) J hJ j0 (by omega) hq
theorem xq_swap_b0 (hA : InvA B F S n cd) (hT : TG T) {a1 : Int32} (c : ¬ okW a1 0 1) (hq : Q (.inr 1) (m_up B 0 15 (B 0 15 + 1)) (TX T)) : ev E 244 0 [some (.ref 0), some (.int (a1)), none, none, none, none, none] [] B T Q := by
  refine s_X_swap_0 ?_
  unfold t_X_swap_0
  refine q_within _ _ _ ?_
  rw [wI_f c]
  exact q_need hT _ (fun q => absurd rfl q) (fun _ => hq)
theorem mq_swap_b0 (hm : mN I F S) {a1 : Int32} (c : ¬ okW a1 0 1) (hq : ∀ v J, ro (m_up I 48 1 (I 48 1 + 1)) J → J 46 0 = 1 → Q (.inl (some (.int v))) J T) : ev E 246 0 [some (.ref 46), some (.int (a1)), none, none, none, none, none] [] I T Q := by
  have hm2 : mN (m_up I 46 0 0) F S := hm
  refine s_M_swap_0 ?_
  unfold t_M_swap_0 t_M_swap_12
  refine q_in _ _ _ ?_
  rw [wI_f c]
  refine bq_t rfl ?_
  refine qm_bad1 (j := 1) rfl (by decide) (by decide) ?_
  refine bq_f (by decide) ?_
  exact hq _ _ (ro_bad I _ _) rfl

theorem o_swap : op_ok Inv E t_W_main_727 := by
  intro I T Q i m hI hT hm hi hL hn
  have hG := TI_g hT hm
  obtain ⟨F, S, n, cd, hA⟩ := hI
  unfold t_W_main_727
  generalize E.2.2 (nI i + 1).toNatClampNeg = a1
  refine ⟨gsc 1 hi hL (by decide), ?_⟩
  refine s_W_swap_0 ?_
  unfold t_W_swap_0 t_W_swap_9
  by_cases c0 : okW a1 0 1
  · obtain ⟨j, hj, rfl⟩ := okW_nat (k := 1) (by decide) c0
    refine xq_swap hA hG hj (fun J hJ => ?_)
    exact ⟨gsc 1 hi hL (by decide), mq_swap hA.1 hJ hj (fun K hK h0 => fin_ok h0 (fun _ => rfl) (hn K _ ⟨F, S, n, cd, hA.ro hK⟩ (TI_s hT)))⟩
  · refine xq_swap_b0 hA hG  c0 ?_
    refine ⟨rfl, ?_⟩
    exact ⟨gsc 1 hi hL (by decide), mq_swap_b0 (F := F) (S := S) (show mN (m_up I 0 15 (I 0 15 + 1)) F S from hA.1.2.1)  c0 (fun v J hJ h0 => fin_ok h0 (fun q => absurd q (by decide)) (hn J _ (Inv_thr (x := 1) (by decide) ⟨F, S, n, cd, hA⟩ rfl (ro.refl _) hJ) (TI_x hT)))⟩
end SWP
