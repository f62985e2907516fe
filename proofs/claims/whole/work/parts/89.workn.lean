/-! ===== work: done by the reference ===== -/
def rm (B I : II) : Prop := (∀ c, coreC c → I c = B c) ∧ I 46 19 = B 46 19
section WRUNM
variable {E : MEnv} {B I : II} {T : TT} {Q : QQ} {F S n : Nat} {cd : Nat → Nat × Int32} {r : Nat → Int32}
theorem rm.mN (hC : Core B F S n cd) (h : rm B I) : mN I F S := by
  have := hC.2.1
  unfold CFeltHarnessLaw_law_r4245_91b192.mN at this ⊢
  rw [h.1 50 (by unfold coreC; omega)]
  exact this
theorem rm.lr (hC : Core B F S n cd) (h : rm B I) : lawR I n cd := by
  obtain ⟨⟨dep, hw⟩, hc, hm⟩ := hC.lr
  have n150 := hw.2.2.1
  refine ⟨⟨dep, hw⟩, ⟨by rw [h.1 15 (by unfold coreC; omega)]; exact hc.1, fun k hk => by rw [h.1 16 (by unfold coreC; omega)]; exact hc.2 k hk⟩, ?_⟩
  rcases hm with ⟨h1, hm⟩ | ⟨h1, h2⟩
  · refine Or.inl ⟨h1, by rw [h.2]; exact hm.1, fun k hk => ?_⟩
    rw [h.1 (86 + k) (by unfold coreC; omega)]
    exact hm.2 k hk
  · exact Or.inr ⟨by rw [h.2]; exact h1, h2⟩
theorem rm_fr {J : II} (h : rm B I) (f : FR [425, 426, 508] I J) : rm B J := ⟨fun c hc => by rw [f c (by unfold coreC at hc; simp; omega)]; exact h.1 c hc, by rw [f 46 (by decide)]; exact h.2⟩
theorem sides_rm (hC : Core B F S n cd) (h : rm B I) (hR : rowR r (I 508)) : sidesM_508 I F n cd = sidesR B F n cd r := by
  have h8 := hC.F8
  unfold sidesM_508 sidesR sides
  rw [bits_congr (fun f hf => hR.1 f (by omega))]
  refine rep_congr F 0 _ (fun f _ hf b => ?_)
  obtain ⟨e1, e2, -⟩ := hC.fe (show f < F by omega)
  unfold sd foM foR
  rw [h.1 (61 + f) (by unfold coreC; omega), e1, e2, hR.1 f (by omega), hR.1 (8 + f) (by omega), hR.1 (16 + f) (by omega), hR.1 24 (by omega), hR.1 25 (by omega)]
theorem up_508 (I : II) (j : Nat) (v : Int32) : (m_up I 508 j v) 508 = upd (I 508) j v := by
  funext k
  rw [m_up_at]
  rfl
theorem qn_becomes (hR : rowR r (I 508)) {j : Nat} (hj : j < 26) (v : Int32) (h1 : r j ≠ v → ∀ J, FR [425, 426, 508] I J → rowR (upd r j v) (J 508) → Q (.inl (some (.int 1))) J T) (h0 : r j = v → Q (.inl (some (.int 0))) I T) : ev E 153 0 [some (.ref 508), some (.int (nI j)), some (.int v)] [] I T Q := by
  refine s_M_becomes_508_0 ?_
  unfold t_M_becomes_508_0
  rw [nI_clamp (by omega), hR.1 j hj]
  refine ⟨⟨nI_pos (by omega), by omega⟩, fun c => h0 c, fun c => ⟨⟨nI_pos (by omega), by omega⟩, h1 c _ (FR.up (by decide) _ _) ?_⟩⟩
  rw [up_508]
  exact hR.up hj rfl
theorem qn_does (hC : Core B F S n cd) (h : rm B I) (hR : rowR r (I 508)) (hV : rowV r F S) {e : SE} {k : Nat} (hk : k < 80) (he : okE F e) (h6 : e.1 ≠ 6) (hM : eM0 I k e) (h1 : ∀ r', dwR B F S n cd e r = some r' → ∀ J, FR [425, 426, 508] I J → rowR r' (J 508) → Q (.inl (some (.int 1))) J T) (h0 : dwR B F S n cd e r = none → Q (.inl (some (.int 0))) I T) : ev E 149 0 [some (.ref 46), some (.ref 508), some (.ref (428 + k)), none] [] I T Q := by
  obtain ⟨i, a, b, z⟩ := e
  have hF := hC.F8
  have hS := hC.S6
  have mK := mK428 hk
  have hN := h.mN hC
  refine s_M_does_508_R_0 mK ?_
  unfold t_M_does_508_R_0
  have m0 : I (428 + k) 0 = nI i := hM.1
  rw [m0]
  match i, h6, he, hM with
  | 0, _, he, hM =>
    have ha : a < F := he.2.1 (by show 0 ≤ 2; omega)
    have m1 : I (428 + k) 1 = nI a := hM.2.1 (Or.inl (by show 0 ≤ 2; omega))
    have m2 : I (428 + k) 2 = nI b := hM.2.2 (Or.inl rfl)
    rw [m1]
    refine s_M_does_508_R_8 mK ?_
    unfold t_M_does_508_R_8
    rw [m2]
    refine p_canBePut_508 hN ha _ ?_
    rw [canP_congr hF hR.1 _ ha, h.1 84 (by unfold coreC; omega), (hC.fe ha).2.2.1]
    have ed : dwR B F S n cd (0, a, b, z) r = if canP r F (B 6 a) a (nI b) = 0 then none else some (upd r a (nI b)) := rfl
    rw [ed] at h1 h0
    refine ⟨fun c => ?_, fun c => ?_⟩
    · rw [if_pos c] at h0; exact h0 rfl
    · rw [if_neg c] at h1
      have z0 : (0 + nI a : Int32) = nI a := by have := nI_add 0 a; rw [Nat.zero_add] at this; exact this
      rw [z0, nI_clamp (by omega), m2]
      refine ⟨⟨nI_pos (by omega), by omega⟩, h1 _ rfl _ (FR.up (by decide) _ _) ?_⟩
      rw [up_508]
      exact hR.up (by omega) rfl
  | 1, _, he, hM =>
    have ha : a < F := he.2.1 (by show 1 ≤ 2; omega)
    have m1 : I (428 + k) 1 = nI a := hM.2.1 (Or.inl (by show 1 ≤ 2; omega))
    rw [m1]
    refine ev_fg [false, true, false, true] rfl (s_M_does_508_R_28 ?_)
    unfold t_M_does_508_R_28
    have z0 : (0 + nI a : Int32) = nI a := by have := nI_add 0 a; rw [Nat.zero_add] at this; exact this
    rw [z0]
    have ed : dwR B F S n cd (1, a, b, z) r = if r a = -1 then none else some (upd r a (-1)) := rfl
    rw [ed] at h1 h0
    refine qn_becomes hR (by omega) _ (fun c J f hJ => ⟨Or.inr rfl, ?_⟩) (fun c => ⟨Or.inl rfl, ?_⟩)
    · rw [if_neg c] at h1; exact h1 _ rfl J f hJ
    · rw [if_pos c] at h0; exact h0 rfl
  | 2, _, he, hM =>
    have ha : a < F := he.2.1 (by show 2 ≤ 2; omega)
    have m1 : I (428 + k) 1 = nI a := hM.2.1 (Or.inl (by show 2 ≤ 2; omega))
    have m2 : I (428 + k) 2 = nI b := hM.2.2 (Or.inr rfl)
    rw [m1]
    refine ev_fg [false, true, true, true] rfl (s_M_does_508_R_35 mK ?_)
    unfold t_M_does_508_R_35
    have z8 : (8 + nI a : Int32) = nI (8 + a) := nI_add 8 a
    rw [z8, m2]
    have ed : dwR B F S n cd (2, a, b, z) r = if r (8 + a) = nI b then none else some (upd r (8 + a) (nI b)) := rfl
    rw [ed] at h1 h0
    refine qn_becomes hR (by omega) _ (fun c J f hJ => ⟨Or.inr rfl, ?_⟩) (fun c => ⟨Or.inl rfl, ?_⟩)
    · rw [if_neg c] at h1; exact h1 _ rfl J f hJ
    · rw [if_pos c] at h0; exact h0 rfl
  | 3, _, he, hM =>
    refine ev_fg [true, true, false, false] rfl (s_M_does_508_R_44 ?_)
    unfold t_M_does_508_R_44
    refine p_mcanDrive_508 hN ?_
    rw [canD_congr hF hR.1]
    have ed : dwR B F S n cd (3, a, b, z) r = if canD r F S = 0 then none else some (drvR B F n cd r (r 25).toNatClampNeg) := rfl
    rw [ed] at h1 h0
    refine ⟨fun c => ?_, fun c => ?_⟩
    · rw [if_pos c] at h0; exact h0 rfl
    · rw [if_neg c] at h1
      obtain ⟨-, s, s1, s2⟩ := canD_lt hS hV.2.2.2.2 c
      rw [s2, nI_clamp (by omega)] at h1
      rw [hR.1 25 (by omega), s2]
      obtain ⟨e1, e2, -⟩ := hC.st s1
      have k1 : I (77 + s) 0 = B 7 s := by rw [h.1 (77 + s) (by unfold coreC; omega)]; exact e1
      have k2 : I (77 + s) 1 = B 8 s := by rw [h.1 (77 + s) (by unfold coreC; omega)]; exact e2
      have k3 : I 50 2 = B 3 7 := by rw [h.1 50 (by unfold coreC; omega)]; exact hC.br
      refine p_driven_508 hN (h.lr hC) (fun f hf => by rw [hR.1 f (by omega)]; exact hV.1 f hf) (by omega) (fun ho => ?_) (fun J hJ => ?_)
      · rw [sides_rm hC h hR] at ho ⊢
        rw [k1, k2, k3] at ho
        obtain ⟨q, a1, a2, a3⟩ := out_pos hC s1 ho
        rw [a3]
        exact nI_ne0 a1 a2
      · rw [sides_rm hC h hR, k1, k2, k3]
        refine h1 _ rfl _ ((hJ.mono (by decide)).trans (FR.row (by decide) _)) ?_
        rw [m_row_at]
        exact drv_alike hC s1 hV.w hR
  | 4, _, he, hM =>
    refine ev_fg [false, true, false, false] rfl (s_M_does_508_R_59 ?_)
    unfold t_M_does_508_R_59
    have ed : dwR B F S n cd (4, a, b, z) r = if r 25 = 0 then none else some (upd r 25 0) := rfl
    rw [ed] at h1 h0
    refine qn_becomes (j := 25) hR (by omega) _ (fun c J f hJ => ⟨Or.inr rfl, ?_⟩) (fun c => ⟨Or.inl rfl, ?_⟩)
    · rw [if_neg c] at h1; exact h1 _ rfl J f hJ
    · rw [if_pos c] at h0; exact h0 rfl
  | 5, _, he, hM =>
    refine ev_fg [true, true, false, false] rfl (s_M_does_508_R_64 ?_)
    unfold t_M_does_508_R_64
    rw [hR.1 24 (by omega)]
    have ed : dwR B F S n cd (5, a, b, z) r = if 900 ≤ r 24 then none else some (restC (B 5) F r) := rfl
    rw [ed] at h1 h0
    refine ⟨fun c => ?_, fun c => ?_⟩
    · rw [if_neg (fun y => absurd c (by rw [fa_lt]; rw [fa_le] at y; omega))] at h1
      refine p_rests_508 hN ?_
      rw [restM_congr (c2 := B 5) (fun f hf => by rw [h.1 (61 + f) (by unfold coreC; omega)]; exact (hC.fe hf).2.1)]
      refine h1 _ rfl _ (FR.row (by decide) _) ?_
      rw [m_row_at]
      exact rst_alike hC hV.w hR
    · rw [if_pos (by rw [fa_le]; rw [fa_lt] at c; omega)] at h0
      exact h0 rfl
  | 6, h6, _, _ => exact absurd rfl h6
  | k + 7, _, he, _ => exact absurd he.1 (by show ¬ k + 7 ≤ 6; omega)
/-- the reference's run: its heap, by the one that it began with -/
def rf (B R I : II) : Prop := rm B I ∧ (∀ c, c ≠ 46 → c ≠ 425 → c ≠ 426 → c ≠ 508 → I c = R c) ∧ ∀ j, j ≠ 35 → j ≠ 38 → j ≠ 39 → I 46 j = R 46 j
def rwM (F S : Nat) (I : II) (s : RW) : Prop := rowR s.1 (I 508) ∧ I 46 38 = nI s.2.1 ∧ I 46 39 = nI s.2.2.1 ∧ I 46 35 = nI s.2.2.2 ∧ rowV s.1 F S ∧ s.2.1 ≤ 200
theorem rf_fr {R J : II} (h : rf B R I) (f : FR [425, 426, 508] I J) : rf B R J := ⟨rm_fr h.1 f, fun c a b d e => by rw [f c (by simp; omega)]; exact h.2.1 c a b d e, fun j a b c => by rw [f 46 (by decide)]; exact h.2.2 j a b c⟩
theorem rf_46 {R : II} {j : Nat} {v : Int32} (hj : j = 35 ∨ j = 38 ∨ j = 39) (h : rf B R I) : rf B R (m_up I 46 j v) := ⟨⟨fun c hc => by rw [m_up_ne (by unfold coreC at hc; omega)]; exact h.1.1 c hc, by rw [m_up_at, if_neg (by omega)]; exact h.1.2⟩, fun c a b d e => by rw [m_up_ne a]; exact h.2.1 c a b d e, fun i a b c => by rw [m_up_at, if_neg (by omega)]; exact h.2.2 i a b c⟩
def RM (E : MEnv) (B R : II) (F S : Nat) (D : SE → RW → RW) (st : Nat → SE) (cnt m : Nat) : Prop := ∀ (I : II) (T : TT) (Q : QQ) (i j : Nat) (s : RW), rf B R I → rwM F S I s → wn F st m i j → j ≤ cnt → (∀ J, rf B R J → rwM F S J (rnD D st m i j s) → Q (.inl none) J T) → ev E 148 0 [some (.ref 46), some (.int (nI i)), some (.int (nI j)), none, none] [] I T Q
theorem lm_ag {R : II} {e : Nat} {X : Nat × (Nat → Int32)} {D : SE → RW → RW} {st : Nat → SE} {cnt m k : Nat} {y : Int32} (hcnt : cnt ≤ 30) (hst : ∀ k, k < cnt → eM R k (st k)) (hk : k < cnt) (k6 : (st k).1 = 6) (hj : (st k).2.2.2 ≤ cnt) (ha : (st k).2.1 ≤ 60) (hw : wn F st m (k + 1) (st k).2.2.2) (hin : RM (e, X) B R F S D st cnt m) : ∀ (d x4 : Nat) (s : RW) (I : II), x4 + d = (st k).2.1 → rf B R I → rwM F S I s → (∀ J, rf B R J → rwM F S J (agF (rnD D st m (k + 1) (st k).2.2.2) d s) → t_M_goes_80 e X J T Q y (nI k)) → t_M_goes_25 e X I T Q y (nI k) (nI x4)
  | 0, x4, s, I, hd, h, hs, hq => by
    unfold t_M_goes_25 t_M_goes_50
    rw [nI_clamp (by omega), h.2.1 (428 + k) (by omega) (by omega) (by omega) (by omega), (hst k hk).1.2.1 (Or.inr k6)]
    exact ⟨⟨nI_pos (by omega), by omega⟩, bq_t (nI_le (by omega) (by omega)) (hq I h hs)⟩
  | d + 1, x4, s, I, hd, h, hs, hq => by
    unfold t_M_goes_25 t_M_goes_50
    rw [nI_clamp (by omega), h.2.1 (428 + k) (by omega) (by omega) (by omega) (by omega), (hst k hk).1.2.1 (Or.inr k6), (hst k hk).2, hs.2.1]
    refine ⟨⟨nI_pos (by omega), by omega⟩, bq_f (nI_ge (by omega) (by omega)) ?_⟩
    have h200 := hs.2.2.2.2.2
    rw [agF] at hq
    by_cases c : 200 ≤ s.2.1
    · rw [if_pos c] at hq
      exact bq_t (nI_le (a := 200) (b := s.2.1) c (by omega)) (hq I h hs)
    · rw [if_neg c] at hq
      refine bq_f (nI_ge (a := s.2.1) (b := 200) (by omega) (by omega)) ⟨⟨nI_pos (by omega), by omega⟩, ?_⟩
      rw [nI_1 k]
      refine hin I T _ (k + 1) (st k).2.2.2 s h hs hw hj (fun J hJ sJ => ?_)
      rw [nI_1 x4]
      exact s_M_goes_25 (lm_ag hcnt hst hk k6 hj ha hw hin d (x4 + 1) _ J (by omega) hJ sJ hq)
theorem lm_run {R : II} {e : Nat} {X : Nat × (Nat → Int32)} {st : Nat → SE} {cnt m : Nat} (hC : Core B F S n cd) (hcnt : cnt ≤ 30) (hst : ∀ k, k < cnt → eM R k (st k)) (hin : RM (e, X) B R F S (stW B F S n cd) st cnt m) : ∀ (t i j : Nat) (s : RW) (I : II), wl F st (wn F st m) t i j → j ≤ cnt → rf B R I → rwM F S I s → (∀ J, rf B R J → rwM F S J (lpF (stW B F S n cd) st (rnD (stW B F S n cd) st m) t i j s) → Q (.inl none) J T) → t_M_goes_2 e X I T Q (nI j) (nI i)
  | 0, i, j, s, I, hw, hj, h, hs, hq => by
    have hij : i = j := hw
    unfold t_M_goes_2 t_M_goes_88
    exact bq_t (nI_le (by omega) (by omega)) (hq I h hs)
  | t + 1, i, j, s, I, hw, hj, h, hs, hq => by
    rcases hw with hij | ⟨hlt, ho, hn1, hn2, hw6, hw⟩
    · rw [lpF, if_pos (by omega)] at hq
      unfold t_M_goes_2 t_M_goes_88
      exact bq_t (nI_le (by omega) (by omega)) (hq I h hs)
    · rw [lpF, if_neg (by omega)] at hq
      have hi := hst i (by omega)
      have h200 := hs.2.2.2.2.2
      unfold t_M_goes_2 t_M_goes_88
      refine bq_f (nI_ge (by omega) (by omega)) ?_
      rw [hs.2.1]
      by_cases c : 200 ≤ s.2.1
      · rw [if_pos c] at hq
        exact bq_t (nI_le (a := 200) (b := s.2.1) c (by omega)) (hq I h hs)
      · rw [if_neg c] at hq
        refine bq_f (nI_ge (a := s.2.1) (b := 200) (by omega) (by omega)) ?_
        rw [nI_clamp (by omega), nI_1]
        refine ⟨⟨nI_pos (by omega), by omega⟩, ?_⟩
        generalize hI1 : m_up I 46 38 (nI (s.2.1 + 1)) = I1
        have h1 : rf B R I1 := by rw [← hI1]; exact rf_46 (by omega) h
        have s1 : rwM F S I1 (s.1, s.2.1 + 1, s.2.2) := by
          rw [← hI1]
          exact ⟨hs.1, rfl, hs.2.2.1, hs.2.2.2.1, hs.2.2.2.2.1, by show s.2.1 + 1 ≤ 200; omega⟩
        have i428 : ∀ {J : II}, rf B R J → J (428 + i) = R (428 + i) := fun hJ => hJ.2.1 (428 + i) (by omega) (by omega) (by omega) (by omega)
        rw [i428 h1, hi.1.1]
        have next : ∀ (J : II) (s' : RW), rf B R J → rwM F S J s' → (∀ K, rf B R K → rwM F S K (lpF (stW B F S n cd) st (rnD (stW B F S n cd) st m) t (st i).2.2.2 j s') → Q (.inl none) K T) → t_M_goes_80 e X J T Q (nI j) (nI i) := fun J s' hJ sJ hq' => by
          unfold t_M_goes_80
          rw [nI_clamp (by omega), i428 hJ, hi.2]
          exact ⟨⟨nI_pos (by omega), by omega⟩, s_M_goes_2 (lm_run hC hcnt hst hin t (st i).2.2.2 j s' J hw hj hJ sJ hq')⟩
        by_cases c6 : (st i).1 = 6
        · rw [if_pos c6] at hq
          refine bq_t (by rw [c6]; rfl) ?_
          refine lm_ag hcnt hst (by omega) c6 (by omega) (ho.2.2.2.2 c6) (hw6 c6) hin (st i).2.1 0 _ I1 (by omega) h1 s1 (fun J hJ sJ => ?_)
          exact next J _ hJ sJ hq
        · rw [if_neg c6] at hq
          have o6 := ho.1
          refine bq_f (fun z => c6 ((nI_eq (a := (st i).1) (b := 6) (by omega) (by omega)).mp z)) ⟨⟨nI_pos (by omega), by omega⟩, ?_⟩
          have hM : eM0 I1 i (st i) := hi.1.of (fun j _ => by rw [i428 h1])
          refine qn_does hC h1.1 s1.1 s1.2.2.2.2.1 (by omega) ho c6 hM (fun r' er J fJ hr => ?_) (fun er => ?_)
          · have eS : stW B F S n cd (st i) (s.1, s.2.1 + 1, s.2.2) = (r', s.2.1 + 1, s.2.2.1 + 1, s.2.2.2) := by
              unfold stW; rw [er]
            rw [eS] at hq
            refine bq_f (by decide) ?_
            have j46 : J 46 = I1 46 := fJ 46 (by decide)
            have e9 : J 46 39 + 1 = nI (s.2.2.1 + 1) := by rw [j46, s1.2.2.1]; exact nI_1 _
            show t_M_goes_68 e X J T Q (nI j) (nI i) 1 (J 46 39) 1
            unfold t_M_goes_68 t_M_goes_78
            rw [e9]
            refine bq_f (by decide) ?_
            have e5 : (m_up J 46 39 (nI (s.2.2.1 + 1))) 46 35 + 0 = nI s.2.2.2 := by
              show J 46 35 + 0 = _
              rw [j46, s1.2.2.2.1]
              exact Int32.add_zero _
            rw [e5]
            refine next _ (r', s.2.1 + 1, s.2.2.1 + 1, s.2.2.2) (rf_46 (by omega) (rf_46 (by omega) (rf_fr h1 fJ))) ⟨hr, ?_, rfl, rfl, dwR_V hC ho s1.2.2.2.2.1 er, by show s.2.1 + 1 ≤ 200; omega⟩ hq
            show J 46 38 = _
            rw [j46]; exact s1.2.1
          · have eS : stW B F S n cd (st i) (s.1, s.2.1 + 1, s.2.2) = (s.1, s.2.1 + 1, s.2.2.1, s.2.2.2 + 1) := by
              unfold stW; rw [er]
            rw [eS] at hq
            refine bq_t rfl ?_
            have e9 : I1 46 39 + 0 = nI s.2.2.1 := by rw [s1.2.2.1]; exact Int32.add_zero _
            show t_M_goes_68 e X I1 T Q (nI j) (nI i) 0 (I1 46 39) 0
            unfold t_M_goes_68 t_M_goes_78
            rw [e9]
            refine bq_t rfl ?_
            have e5 : (m_up I1 46 39 (nI s.2.2.1)) 46 35 + 1 = nI (s.2.2.2 + 1) := by
              show I1 46 35 + 1 = _
              rw [s1.2.2.2.1]
              exact nI_1 _
            rw [e5]
            exact next _ (s.1, s.2.1 + 1, s.2.2.1, s.2.2.2 + 1) (rf_46 (by omega) (rf_46 (by omega) h1)) ⟨s1.1, s1.2.1, rfl, rfl, s1.2.2.2.2.1, by show s.2.1 + 1 ≤ 200; omega⟩ hq
theorem m_runD {R : II} {X : Nat × (Nat → Int32)} {st : Nat → SE} {cnt : Nat} (hC : Core B F S n cd) (hcnt : cnt ≤ 30) (hst : ∀ k, k < cnt → eM R k (st k)) : ∀ (m e : Nat), m ≤ e → RM (e, X) B R F S (stW B F S n cd) st cnt m
  | 0, e, _ => by
    intro I T Q i j s _ _ hw
    exact absurd hw (by intro h; exact h)
  | m + 1, 0, h => absurd h (by omega)
  | m + 1, e + 1, he => by
    intro I T Q i j s h hs hw hj hq
    refine s_M_goes_0 ?_
    unfold t_M_goes_0
    exact lm_run hC hcnt hst (m_runD hC hcnt hst m e (by omega)) 31 i j s I hw hj h hs hq
end WRUNM
