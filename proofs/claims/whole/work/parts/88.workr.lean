/-! ===== work: done by the class ===== -/
abbrev LR : List Nat := [18, 19, 23, 28, 29]
def rn (B I : II) : Prop := FR LR B I ∧ ∀ j, j < 6 → I 23 j = B 23 j
theorem LR_law : lawL LR := ⟨by decide, by decide, by decide, fun k hk => by simp; omega⟩
theorem canP_01 (r : Nat → Int32) (F : Nat) (x : Int32) (f : Nat) (p : Int32) : canP r F x f p = 0 ∨ canP r F x f p = 1 := by
  unfold canP
  repeat' split
  all_goals first | exact Or.inl rfl | exact Or.inr rfl
theorem canD_01 (r : Nat → Int32) (F S : Nat) : canD r F S = 0 ∨ canD r F S = 1 := by
  unfold canD
  repeat' split
  all_goals first | exact Or.inl rfl | exact Or.inr rfl
section WRUN
variable {E : MEnv} {B I : II} {T : TT} {Q : QQ} {F S n : Nat} {cd : Nat → Nat × Int32} {r : Nat → Int32}
theorem rn.hN (hC : Core B F S n cd) (h : rn B I) : hN I F S := hC.1.keep (by decide) h.1
theorem rn.lr (hC : Core B F S n cd) (h : rn B I) : lawR I n cd := hC.lr.keep LR_law h.1
theorem sides_rn (h : rn B I) (hr : I 29 = r) : sidesC_28 I F n cd = sidesR B F n cd r := by
  unfold sidesC_28 sidesR foC foR
  rw [h.1 4 (by decide), h.1 5 (by decide), hr]
theorem q_isDone (hC : Core B F S n cd) (h : rn B I) (hr : I 29 = r) (hV : rowV r F S) {e : SE} (he : okE F e) (h6 : e.1 ≠ 6) (h1 : ∀ r', dwR B F S n cd e r = some r' → ∀ J, FR [18, 19, 28, 29] I J → J 29 = r' → Q (.inl (some (.int 1))) J T) (h0 : dwR B F S n cd e r = none → Q (.inl (some (.int 0))) I T) : ev E 104 0 [some (.ref 28), some (.int (nI e.1)), some (.int (nI e.2.1)), some (.int (nI e.2.2.1)), none] [] I T Q := by
  obtain ⟨i, a, b, z⟩ := e
  have hF := hC.F8
  have hS := hC.S6
  have hN := h.hN hC
  show ev E 104 0 [some (.ref 28), some (.int (nI i)), some (.int (nI a)), some (.int (nI b)), none] [] I T Q
  refine s_Coach_isDone_28_0 ?_
  unfold t_Coach_isDone_28_0
  refine s_Coach_canDo_28_0 ?_
  unfold t_Coach_canDo_28_0
  have ha : i ≤ 2 → a < F := he.2.1
  match i, h6, he with
  | 0, _, he =>
    have ha : a < F := he.2.1 (by show 0 ≤ 2; omega)
    refine ev_fg [true, false, true, true] rfl (s_Coach_canDo_28_2 ?_)
    unfold t_Coach_canDo_28_2
    refine p_canPut_28 hN ha _ ?_
    rw [hr, h.1 6 (by decide)]
    refine ⟨canP_01 _ _ _ _ _, ?_⟩
    have ed : dwR B F S n cd (0, a, b, z) r = if canP r F (B 6 a) a (nI b) = 0 then none else some (upd r a (nI b)) := rfl
    rw [ed] at h1 h0
    rcases canP_01 r F (B 6 a) a (nI b) with c | c
    · rw [c]
      rw [if_pos c] at h0
      refine bq_t rfl ?_
      exact ⟨Or.inl rfl, h0 rfl⟩
    · rw [c]
      rw [if_neg (by rw [c]; decide)] at h1
      refine bq_f (by decide) ?_
      refine ev_fg [true, false, true, true, true] rfl (s_Coach_isDone_28_10 ?_)
      unfold t_Coach_isDone_28_10
      refine p_setPlace_28 hN ha _ ?_
      rw [hr]
      exact ⟨Or.inr rfl, h1 _ rfl _ (FR.row (by decide) _) m_row_at⟩
  | 1, _, he =>
    have ha : a < F := he.2.1 (by show 1 ≤ 2; omega)
    refine ev_fg [true, false, true, false] rfl (s_Coach_canDo_28_7 ?_)
    unfold t_Coach_canDo_28_7
    refine p_hasPlace_28 hN (by omega) ?_
    rw [hr]
    have ed : dwR B F S n cd (1, a, b, z) r = if r a = -1 then none else some (upd r a (-1)) := rfl
    rw [ed] at h1 h0
    by_cases c : r a = -1
    · rw [if_neg (fun y => y.2 c)]
      rw [if_pos c] at h0
      exact ⟨Or.inl rfl, bq_t rfl ⟨Or.inl rfl, h0 rfl⟩⟩
    · rw [if_pos ⟨ha, c⟩]
      rw [if_neg c] at h1
      refine ⟨Or.inr rfl, bq_f (by decide) ?_⟩
      refine ev_fg [true, false, true, false, true] rfl (s_Coach_isDone_28_15 ?_)
      unfold t_Coach_isDone_28_15
      refine p_takeOut_28 hN ha ?_
      rw [hr]
      exact ⟨Or.inr rfl, h1 _ rfl _ (FR.row (by decide) _) m_row_at⟩
  | 2, _, he =>
    have ha : a < F := he.2.1 (by show 2 ≤ 2; omega)
    have hb : b < 10 := he.2.2.2.1 rfl
    refine ev_fg [true, false, true, true] rfl (s_Coach_canDo_28_11 ?_)
    unfold t_Coach_canDo_28_11 t_Coach_canDo_28_19
    refine p_tightOf_28 hN (by omega) ?_
    rw [if_pos ha, hr]
    have ed : dwR B F S n cd (2, a, b, z) r = if r (8 + a) = nI b then none else some (upd r (8 + a) (nI b)) := rfl
    rw [ed] at h1 h0
    by_cases c : r (8 + a) = nI b
    · rw [if_pos c] at h0
      exact bq_t c ⟨Or.inl rfl, bq_t rfl ⟨Or.inl rfl, h0 rfl⟩⟩
    · rw [if_neg c] at h1
      refine bq_f c ⟨Or.inr rfl, bq_f (by decide) ?_⟩
      refine ev_fg [true, false, true, true, true] rfl (s_Coach_isDone_28_19 ?_)
      unfold t_Coach_isDone_28_19
      refine p_setTight_28 hN ha _ ?_
      have ev0 : (if 0 < nI b then nI b else 0) = nI b := by
        by_cases y : 0 < b
        · rw [if_pos (show (0 : Int32) < nI b from nI_lt (a := 0) (b := b) y (by omega))]
        · have : b = 0 := by omega
          rw [this]; rfl
      rw [ev0, hr]
      exact ⟨Or.inr rfl, h1 _ rfl _ (FR.row (by decide) _) m_row_at⟩
  | 3, _, he =>
    refine ev_fg [true, false, false, false] rfl (s_Coach_canDo_28_20 ?_)
    unfold t_Coach_canDo_28_20
    refine p_canDrive_28 hN ?_
    rw [hr]
    have ed : dwR B F S n cd (3, a, b, z) r = if canD r F S = 0 then none else some (drvR B F n cd r (r 25).toNatClampNeg) := rfl
    rw [ed] at h1 h0
    refine ⟨canD_01 _ _ _, ?_⟩
    rcases canD_01 r F S with c | c
    · rw [c]
      rw [if_pos c] at h0
      exact bq_t rfl ⟨Or.inl rfl, h0 rfl⟩
    · have cn : canD r F S ≠ 0 := by rw [c]; decide
      rw [c]
      rw [if_neg cn] at h1
      refine bq_f (by decide) ?_
      refine ev_fg [true, false, false, false, true] rfl (s_Coach_isDone_28_24 ?_)
      unfold t_Coach_isDone_28_24
      refine p_behind_28 ?_
      obtain ⟨-, s, s1, s2⟩ := canD_lt hS hV.2.2.2.2 cn
      rw [s2, nI_clamp (by omega)] at h1
      rw [hr, s2]
      refine p_driveOver_28 hN (h.lr hC) s1 (fun J hJ => ?_)
      rw [sides_rn h hr, h.1 7 (by decide), h.1 8 (by decide), h.1 3 (by decide), hr]
      exact ⟨Or.inr rfl, h1 _ rfl _ ((hJ.mono (by decide)).trans (FR.row (by decide) _)) m_row_at⟩
  | 4, _, he =>
    refine ev_fg [true, false, false, false] rfl (s_Coach_canDo_28_23 ?_)
    unfold t_Coach_canDo_28_23 t_Coach_canDo_28_29
    refine p_behind_28 ?_
    rw [hr]
    have ed : dwR B F S n cd (4, a, b, z) r = if r 25 = 0 then none else some (upd r 25 0) := rfl
    rw [ed] at h1 h0
    by_cases c : r 25 = 0
    · rw [if_pos c] at h0
      exact bq_t c ⟨Or.inl rfl, bq_t rfl ⟨Or.inl rfl, h0 rfl⟩⟩
    · rw [if_neg c] at h1
      refine bq_f c ⟨Or.inr rfl, bq_f (by decide) ?_⟩
      refine ev_fg [true, false, false, false, true] rfl (s_Coach_isDone_28_29 ?_)
      unfold t_Coach_isDone_28_29
      refine s_Coach_goHome_28_0 ?_
      unfold t_Coach_goHome_28_0
      refine ⟨Or.inr rfl, h1 _ rfl _ (FR.up (by decide) _ _) ?_⟩
      funext j
      rw [m_up_at, hr]
      rfl
  | 5, _, he =>
    refine ev_fg [true, false, false, false] rfl (s_Coach_canDo_28_30 ?_)
    unfold t_Coach_canDo_28_30 t_Coach_canDo_28_37
    refine p_day_28 ?_
    rw [hr]
    have ed : dwR B F S n cd (5, a, b, z) r = if 900 ≤ r 24 then none else some (restC (B 5) F r) := rfl
    rw [ed] at h1 h0
    by_cases c : 900 ≤ r 24
    · rw [if_pos c] at h0
      exact bq_t c ⟨Or.inl rfl, bq_t rfl ⟨Or.inl rfl, h0 rfl⟩⟩
    · rw [if_neg c] at h1
      refine bq_f c ⟨Or.inr rfl, bq_f (by decide) ?_⟩
      refine ev_fg [true, false, false, false, true] rfl (s_Coach_isDone_28_32 ?_)
      unfold t_Coach_isDone_28_32
      refine p_restOneDay_28 hN ?_
      rw [hr, h.1 5 (by decide)]
      exact ⟨Or.inr rfl, h1 _ rfl _ (FR.row (by decide) _) m_row_at⟩
  | 6, h6, _ => exact absurd rfl h6
  | k + 7, _, he => exact absurd he.1 (by show ¬ k + 7 ≤ 6; omega)
def rwC (F S : Nat) (I : II) (s : RW) : Prop := I 29 = s.1 ∧ I 23 6 = nI s.2.1 ∧ I 23 7 = nI s.2.2.1 ∧ I 23 8 = nI s.2.2.2 ∧ rowV s.1 F S ∧ s.2.1 ≤ 200
def RC (E : MEnv) (B : II) (F S : Nat) (D : SE → RW → RW) (st : Nat → SE) (cnt x n : Nat) : Prop := ∀ (I : II) (T : TT) (Q : QQ) (i j : Nat) (s : RW), rn B I → rwC F S I s → wn F st n i j → j ≤ cnt → (∀ J, rn B J → rwC F S J (rnD D st n i j s) → Q (.inl none) J T) → ev E 102 0 [some (.ref 23), some (.ref 28), some (.int (nI i)), some (.int (nI j)), some (.int (nI x)), none, none] [] I T Q
theorem l_ag {e : Nat} {X : Nat × (Nat → Int32)} {D : SE → RW → RW} {st : Nat → SE} {cnt x m k : Nat} (hcnt : cnt ≤ 30) (hst : ∀ k, k < cnt → eC B k (st k)) (hk : k < cnt) (hj : (st k).2.2.2 ≤ cnt) (ha : (st k).2.1 ≤ 60) (hw : wn F st m (k + 1) (st k).2.2.2) (hin : RC (e, X) B F S D st cnt (x + 1) m) : ∀ (d x4 : Nat) (s : RW) (I : II), x4 + d = (st k).2.1 → rn B I → rwC F S I s → (∀ J, rn B J → rwC F S J (agF (rnD D st m (k + 1) (st k).2.2.2) d s) → Q (.inl none) J T) → t_Plan_runAgain_28_11 e X I T Q (nI k) (nI x) (nI x4)
  | 0, x4, s, I, hd, h, hs, hq => by
    unfold t_Plan_runAgain_28_11 t_Plan_runAgain_28_36
    rw [nI_clamp (by omega), h.1 25 (by decide), (hst k hk).2.1]
    exact ⟨⟨nI_pos (by omega), by omega⟩, bq_t (nI_le (by omega) (by omega)) (hq I h hs)⟩
  | d + 1, x4, s, I, hd, h, hs, hq => by
    unfold t_Plan_runAgain_28_11 t_Plan_runAgain_28_36
    rw [nI_clamp (by omega), h.1 25 (by decide), (hst k hk).2.1, h.1 27 (by decide), (hst k hk).2.2.2, hs.2.1]
    refine ⟨⟨nI_pos (by omega), by omega⟩, bq_f (nI_ge (by omega) (by omega)) ?_⟩
    have h200 := hs.2.2.2.2.2
    rw [agF] at hq
    by_cases c : 200 ≤ s.2.1
    · rw [if_pos c] at hq
      exact bq_t (nI_le (a := 200) (b := s.2.1) c (by omega)) (hq I h hs)
    · rw [if_neg c] at hq
      refine bq_f (nI_ge (a := s.2.1) (b := 200) (by omega) (by omega)) ⟨⟨nI_pos (by omega), by omega⟩, ?_⟩
      rw [nI_1 k, nI_1 x]
      refine hin I T _ (k + 1) (st k).2.2.2 s h hs hw hj (fun J hJ sJ => ?_)
      rw [nI_1 x4]
      exact s_Plan_runAgain_28_11 (l_ag hcnt hst hk hj ha hw hin d (x4 + 1) _ J (by omega) hJ sJ hq)
theorem rn_23 {I : II} {j : Nat} {v : Int32} (hj : 6 ≤ j) (h : rn B I) : rn B (m_up I 23 j v) := ⟨h.1.trans (FR.up (by decide) _ _), fun i hi => by rw [m_up_at, if_neg (by omega)]; exact h.2 i hi⟩
theorem l_run {e : Nat} {X : Nat × (Nat → Int32)} {st : Nat → SE} {cnt x m : Nat} (hC : Core B F S n cd) (hx : x ≤ 6) (hcnt : cnt ≤ 30) (hst : ∀ k, k < cnt → eC B k (st k)) (hin : RC (e, X) B F S (stW B F S n cd) st cnt (x + 1) m) : ∀ (t i j x6 : Nat) (s : RW) (I : II), x6 ≤ i → wl F st (wn F st m) t i j → j ≤ cnt → rn B I → rwC F S I s → (∀ J, rn B J → rwC F S J (lpF (stW B F S n cd) st (rnD (stW B F S n cd) st m) t i j s) → Q (.inl none) J T) → t_Plan_runSteps_28_4 (e + 1, X) I T Q (nI j) (nI x) (nI i) (nI x6)
  | 0, i, j, x6, s, I, hx6, hw, hj, h, hs, hq => by
    have hij : i = j := hw
    have q := hq I h hs
    unfold t_Plan_runSteps_28_4 t_Plan_runSteps_28_73
    exact ⟨fun _ => q, fun _ => ⟨fun _ => q, fun _ => bq_t (nI_le (by omega) (by omega)) q⟩⟩
  | t + 1, i, j, x6, s, I, hx6, hw, hj, h, hs, hq => by
    rcases hw with hij | ⟨hlt, ho, hn1, hn2, hw6, hw⟩
    · rw [lpF, if_pos (by omega)] at hq
      have q := hq I h hs
      unfold t_Plan_runSteps_28_4 t_Plan_runSteps_28_73
      exact ⟨fun _ => q, fun _ => ⟨fun _ => q, fun _ => bq_t (nI_le (by omega) (by omega)) q⟩⟩
    · rw [lpF, if_neg (by omega)] at hq
      have hi := hst i (by omega)
      have h200 := hs.2.2.2.2.2
      unfold t_Plan_runSteps_28_4 t_Plan_runSteps_28_73
      refine bq_f (nI_ge (a := x6) (b := 30) (by omega) (by omega)) (bq_f (nI_pos (by omega)) (bq_f (nI_ge (by omega) (by omega)) (bq_f (nI_ge (a := i) (b := 30) (by omega) (by omega)) ?_)))
      rw [hs.2.1]
      by_cases c : 200 ≤ s.2.1
      · rw [if_pos c] at hq
        exact bq_f (nI_nlt (a := s.2.1) (b := 200) c (by omega)) (hq I h hs)
      · rw [if_neg c] at hq
        refine bq_t (nI_lt (a := s.2.1) (b := 200) (by omega) (by omega)) ?_
        rw [nI_clamp (by omega), nI_1]
        refine ⟨⟨nI_pos (by omega), by omega⟩, ?_⟩
        generalize hI1 : m_up I 23 6 (nI (s.2.1 + 1)) = I1
        have h1 : rn B I1 := by rw [← hI1]; exact rn_23 (by omega) h
        have s1 : rwC F S I1 (s.1, s.2.1 + 1, s.2.2) := by
          rw [← hI1]
          exact ⟨hs.1, rfl, hs.2.2.1, hs.2.2.2.1, hs.2.2.2.2.1, by show s.2.1 + 1 ≤ 200; omega⟩
        rw [h1.1 24 (by decide), h1.1 25 (by decide), h1.1 26 (by decide), hi.1, hi.2.1, hi.2.2.1]
        have next : ∀ (J : II) (s' : RW), rn B J → rwC F S J s' → (∀ K, rn B K → rwC F S K (lpF (stW B F S n cd) st (rnD (stW B F S n cd) st m) t (st i).2.2.2 j s') → Q (.inl none) K T) → t_Plan_runSteps_28_66 (e + 1, X) J T Q (nI j) (nI x) (nI i) (nI x6) := fun J s' hJ sJ hq' => by
          unfold t_Plan_runSteps_28_66
          rw [nI_clamp (by omega), hJ.1 27 (by decide), hi.2.2.2, nI_1]
          exact ⟨⟨nI_pos (by omega), by omega⟩, s_Plan_runSteps_28_4 (l_run hC hx hcnt hst hin t (st i).2.2.2 j (x6 + 1) s' J (by omega) hw hj hJ sJ hq')⟩
        by_cases c6 : (st i).1 = 6
        · rw [if_pos c6] at hq
          refine bq_t (by rw [c6]; rfl) ?_
          refine s_Plan_runAgain_28_0 ?_
          unfold t_Plan_runAgain_28_0 t_Plan_runAgain_28_8
          refine bq_f (show ¬ (6 : Int32) < nI x from nI_nlt (a := 6) (b := x) (by omega) (by omega)) (bq_f (nI_pos (by omega)) (bq_t (nI_lt (a := i) (b := 30) (by omega) (by omega)) ?_))
          refine l_ag hcnt hst (by omega) (by omega) (ho.2.2.2.2 c6) (hw6 c6) hin (st i).2.1 0 _ I1 (by omega) h1 s1 (fun J hJ sJ => ?_)
          exact next J _ hJ sJ hq
        · rw [if_neg c6] at hq
          have o6 := ho.1
          refine bq_f (fun z => c6 ((nI_eq (a := (st i).1) (b := 6) (by omega) (by omega)).mp z)) ⟨⟨nI_pos (by omega), by omega⟩, ⟨nI_pos (by omega), by omega⟩, ⟨nI_pos (by omega), by omega⟩, ?_⟩
          refine q_isDone hC h1 s1.1 s1.2.2.2.2.1 ho c6 (fun r' er J fJ hr => ?_) (fun er => ?_)
          · have eS : stW B F S n cd (st i) (s.1, s.2.1 + 1, s.2.2) = (r', s.2.1 + 1, s.2.2.1 + 1, s.2.2.2) := by
              unfold stW; rw [er]
            rw [eS] at hq
            refine bq_f (by decide) ?_
            have j23 : J 23 = I1 23 := fJ 23 (by decide)
            have hJ : rn B J := ⟨h1.1.trans (fJ.mono (by decide)), fun k hk => by rw [j23]; exact h1.2 k hk⟩
            have e7 : J 23 7 + 1 = nI (s.2.2.1 + 1) := by rw [j23, s1.2.2.1]; exact nI_1 _
            show t_Plan_runSteps_28_66 (e + 1, X) (m_up J 23 7 (J 23 7 + 1)) T Q (nI j) (nI x) (nI i) (nI x6)
            rw [e7]
            refine next _ (r', s.2.1 + 1, s.2.2.1 + 1, s.2.2.2) (rn_23 (by omega) hJ) ⟨hr, ?_, rfl, ?_, dwR_V hC ho s1.2.2.2.2.1 er, by show s.2.1 + 1 ≤ 200; omega⟩ hq
            · show J 23 6 = _; rw [j23]; exact s1.2.1
            · show J 23 8 = _; rw [j23]; exact s1.2.2.2.1
          · have eS : stW B F S n cd (st i) (s.1, s.2.1 + 1, s.2.2) = (s.1, s.2.1 + 1, s.2.2.1, s.2.2.2 + 1) := by
              unfold stW; rw [er]
            rw [eS] at hq
            refine bq_t rfl ?_
            have e8 : I1 23 8 + 1 = nI (s.2.2.2 + 1) := by rw [s1.2.2.2.1]; exact nI_1 _
            show t_Plan_runSteps_28_66 (e + 1, X) (m_up I1 23 8 (I1 23 8 + 1)) T Q (nI j) (nI x) (nI i) (nI x6)
            rw [e8]
            exact next _ (s.1, s.2.1 + 1, s.2.2.1, s.2.2.2 + 1) (rn_23 (by omega) h1) ⟨s1.1, s1.2.1, s1.2.2.1, rfl, s1.2.2.2.2.1, by show s.2.1 + 1 ≤ 200; omega⟩ hq
theorem x_run {X : Nat × (Nat → Int32)} {st : Nat → SE} {cnt : Nat} (hC : Core B F S n cd) (hcnt : cnt ≤ 30) (hst : ∀ k, k < cnt → eC B k (st k)) : ∀ (m x e : Nat), m + x = 7 → m ≤ e → RC (e, X) B F S (stW B F S n cd) st cnt x m
  | 0, x, e, _, _ => by
    intro I T Q i j s _ _ hw
    exact absurd hw (by intro h; exact h)
  | m + 1, x, 0, _, h => absurd h (by omega)
  | m + 1, x, e + 1, hx, he => by
    intro I T Q i j s h hs hw hj hq
    refine s_Plan_runSteps_28_0 ?_
    unfold t_Plan_runSteps_28_0
    exact l_run hC (by omega) hcnt hst (x_run hC hcnt hst m (x + 1) e (by omega) (by omega)) 31 i j 0 s I (Nat.zero_le _) hw hj h hs hq
end WRUN
