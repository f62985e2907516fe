/-- FeltHarnessModel.isStage(I)Z -/
def t_M_isStage_0 (E : MEnv) (I : II) (T : TT) (Q : QQ) (x1 : Int32) : Prop := ev E 57 0 [some (.int x1), some (.int 0), some (.int ((I 50 1) - 1))] [] I T (KI (fun v1 I1 T1 => (v1 = 0 ∨ v1 = 1) ∧ Q (.inl (some (.int v1))) I1 T1) (fun _ _ _ => False))
theorem s_M_isStage_0 {E : MEnv} {I : II} {T : TT} {Q : QQ} {x1 : Int32} (hq : t_M_isStage_0 E I T Q x1) : ev E 195 0 [some (.ref 46), some (.int x1)] [] I T Q := by
  unfold t_M_isStage_0 at hq
  refine ev_seq 8 (ip' := 8) (loc' := [some (.ref 46), some (.int x1)]) (st' := [(.int ((I 50 1) - 1)), (.int 0), (.int x1)]) (I1 := I) (T1 := T) rfl ?_
  refine ev_callI rfl rfl rfl (fun v1 I1 T1 hq => ?_) (fun x I1 T1 hq => ?_) hq
  · exact ev_retb rfl rfl hq.1 hq.2
  · exact hq.elim
/-- FeltHarnessModel.isTold(I)Z -/
def t_M_isTold_2 (E : MEnv) (I : II) (T : TT) (Q : QQ) (x1 : Int32) (x2 : Int32) : Prop := ((I 46 33) ≤ x2 → (Q (.inl (some (.int 0))) I T)) ∧ (¬ ((I 46 33) ≤ x2) → ((¬ x2 < 0 ∧ x2.toNatClampNeg < 8) ∧ (((I (408 + x2.toNatClampNeg) 0) = x1 → (Q (.inl (some (.int 1))) I T)) ∧ (¬ ((I (408 + x2.toNatClampNeg) 0) = x1) → (ev E 260 2 [some (.ref 46), some (.int x1), some (.int (x2 + 1))] [] I T Q)))))
theorem s_M_isTold_2 {E : MEnv} {I : II} {T : TT} {Q : QQ} {x1 : Int32} {x2 : Int32} (hq : t_M_isTold_2 E I T Q x1 x2) : ev E 260 2 [some (.ref 46), some (.int x1), some (.int x2)] [] I T Q := by
  unfold t_M_isTold_2 at hq
  refine ev_seq 3 (ip' := 5) (loc' := [some (.ref 46), some (.int x1), some (.int x2)]) (st' := [(.int (I 46 33)), (.int x2)]) (I1 := I) (T1 := T) rfl ?_
  refine ev_br (p := (I 46 33) ≤ x2) (a := 18) (b := 6) (st' := []) inferInstance rfl rfl (fun hb => ?_) (fun hb => ?_)
  · have hq := hq.1 hb
    refine ev_seq 1 (ip' := 19) (loc' := [some (.ref 46), some (.int x1), some (.int x2)]) (st' := [(.int 0)]) (I1 := I) (T1 := T) rfl ?_
    exact ev_ret rfl rfl hq
  · have hq := hq.2 hb
    refine ev_seq 3 (ip' := 9) (loc' := [some (.ref 46), some (.int x1), some (.int x2)]) (st' := [(.int x2), (.ref 407)]) (I1 := I) (T1 := T) rfl ?_
    obtain ⟨hg, hq⟩ := hq
    have hr1 := hg
    refine ev_aald rfl rfl hg (RF_407 hg.2) ?_
    refine ev_seq 1 (ip' := 11) (loc' := [some (.ref 46), some (.int x1), some (.int x2)]) (st' := [(.int 0), (.ref (408 + x2.toNatClampNeg))]) (I1 := I) (T1 := T) rfl ?_
    refine ev_iald rfl (KF_407 hr1.2) ⟨by decide, by decide⟩ ?_
    refine ev_seq 1 (ip' := 13) (loc' := [some (.ref 46), some (.int x1), some (.int x2)]) (st' := [(.int x1), (.int (I (408 + x2.toNatClampNeg) 0))]) (I1 := I) (T1 := T) rfl ?_
    refine ev_br (p := (I (408 + x2.toNatClampNeg) 0) = x1) (a := 14) (b := 16) (st' := []) inferInstance rfl rfl (fun hb => ?_) (fun hb => ?_)
    · have hq := hq.1 hb
      refine ev_seq 1 (ip' := 15) (loc' := [some (.ref 46), some (.int x1), some (.int x2)]) (st' := [(.int 1)]) (I1 := I) (T1 := T) rfl ?_
      exact ev_ret rfl rfl hq
    · have hq := hq.2 hb
      refine ev_seq 2 (ip' := 2) (loc' := [some (.ref 46), some (.int x1), some (.int (x2 + 1))]) (st' := []) (I1 := I) (T1 := T) rfl ?_
      exact hq
def t_M_isTold_0 (E : MEnv) (I : II) (T : TT) (Q : QQ) (x1 : Int32) : Prop := t_M_isTold_2 E I T Q x1 0
theorem s_M_isTold_0 {E : MEnv} {I : II} {T : TT} {Q : QQ} {x1 : Int32} (hq : t_M_isTold_0 E I T Q x1) : ev E 260 0 [some (.ref 46), some (.int x1), none] [] I T Q := by
  unfold t_M_isTold_0 at hq
  refine ev_seq 2 (ip' := 2) (loc' := [some (.ref 46), some (.int x1), some (.int 0)]) (st' := []) (I1 := I) (T1 := T) rfl ?_
  exact s_M_isTold_2 (T := T) hq
/-- FeltHarnessModel.isWord(IIIIII)Z -/
def t_M_isWord_16 (E : MEnv) (I : II) (T : TT) (Q : QQ) (y0 : Int32) : Prop := (y0 = 0 ∨ y0 = 1) ∧ Q (.inl (some (.int y0))) I T
theorem s_M_isWord_16 {E : MEnv} {I : II} {T : TT} {Q : QQ} {y0 : Int32} (hq : t_M_isWord_16 E I T Q y0) : ev E 67 16 [none, none, none, none, none, none, none] [(.int y0)] I T Q := by
  unfold t_M_isWord_16 at hq
  exact ev_retb rfl rfl hq.1 hq.2
def t_M_isWord_15 (E : MEnv) (I : II) (T : TT) (Q : QQ) : Prop := t_M_isWord_16 E I T Q 0
theorem s_M_isWord_15 {E : MEnv} {I : II} {T : TT} {Q : QQ} (hq : t_M_isWord_15 E I T Q) : ev E 67 15 [none, none, none, none, none, none, none] [] I T Q := by
  unfold t_M_isWord_15 at hq
  refine ev_seq 1 (ip' := 16) (loc' := [none, none, none, none, none, none, none]) (st' := [(.int 0)]) (I1 := I) (T1 := T) rfl ?_
  exact s_M_isWord_16 (T := T) hq
def t_M_isWord_0 (E : MEnv) (I : II) (T : TT) (Q : QQ) (x1 : Int32) (x2 : Int32) (x3 : Int32) (x4 : Int32) (x5 : Int32) (x6 : Int32) : Prop := ((I 46 5) = 0 → (ev E 68 0 [some (.ref 46), none, none] [] I T (KI (fun v1 I1 T1 => ev E 64 0 [some (.int x1), some (.int x2), some (.int x3), some (.int x4), some (.int x5), some (.int x6), none] [] I1 T1 (KI (fun v2 I2 T2 => (v1 = v2 → (t_M_isWord_16 E I2 T2 Q 1)) ∧ (¬ (v1 = v2) → (t_M_isWord_15 E I2 T2 Q ))) (fun _ _ _ => False))) (fun x I1 T1 => Q (.inr x) I1 T1)))) ∧ (¬ ((I 46 5) = 0) → (t_M_isWord_15 E I T Q ))
theorem s_M_isWord_0 {E : MEnv} {I : II} {T : TT} {Q : QQ} {x1 : Int32} {x2 : Int32} {x3 : Int32} {x4 : Int32} {x5 : Int32} {x6 : Int32} (hq : t_M_isWord_0 E I T Q x1 x2 x3 x4 x5 x6) : ev E 67 0 [some (.ref 46), some (.int x1), some (.int x2), some (.int x3), some (.int x4), some (.int x5), some (.int x6)] [] I T Q := by
  unfold t_M_isWord_0 at hq
  refine ev_seq 2 (ip' := 2) (loc' := [some (.ref 46), some (.int x1), some (.int x2), some (.int x3), some (.int x4), some (.int x5), some (.int x6)]) (st' := [(.int (I 46 5))]) (I1 := I) (T1 := T) rfl ?_
  refine ev_br (p := (I 46 5) = 0) (a := 3) (b := 15) (st' := []) inferInstance rfl rfl (fun hb => ?_) (fun hb => ?_)
  · have hq := hq.1 hb
    refine ev_seq 1 (ip' := 4) (loc' := [some (.ref 46), some (.int x1), some (.int x2), some (.int x3), some (.int x4), some (.int x5), some (.int x6)]) (st' := [(.ref 46)]) (I1 := I) (T1 := T) rfl ?_
    refine ev_callI rfl rfl rfl (fun v1 I1 T1 hq => ?_) (fun x I1 T1 hq => ?_) hq
    · refine ev_seq 6 (ip' := 11) (loc' := [some (.ref 46), some (.int x1), some (.int x2), some (.int x3), some (.int x4), some (.int x5), some (.int x6)]) (st' := [(.int x6), (.int x5), (.int x4), (.int x3), (.int x2), (.int x1), (.int v1)]) (I1 := I1) (T1 := T1) rfl ?_
      refine ev_callI rfl rfl rfl (fun v2 I2 T2 hq => ?_) (fun x I1 T1 hq => ?_) hq
      · refine ev_br (p := v1 = v2) (a := 13) (b := 15) (st' := []) inferInstance rfl rfl (fun hb => ?_) (fun hb => ?_)
        · have hq := hq.1 hb
          refine ev_seq 2 (ip' := 16) (loc' := [some (.ref 46), some (.int x1), some (.int x2), some (.int x3), some (.int x4), some (.int x5), some (.int x6)]) (st' := [(.int 1)]) (I1 := I2) (T1 := T2) rfl ?_
          refine ev_fg [false, false, false, false, false, false, false] (loc' := [none, none, none, none, none, none, none]) rfl ?_
          exact s_M_isWord_16 (T := T2) hq
        · have hq := hq.2 hb
          refine ev_fg [false, false, false, false, false, false, false] (loc' := [none, none, none, none, none, none, none]) rfl ?_
          exact s_M_isWord_15 (T := T2) hq
      · exact hq.elim
    · exact ⟨by decide, hq⟩
  · have hq := hq.2 hb
    refine ev_fg [false, false, false, false, false, false, false] (loc' := [none, none, none, none, none, none, none]) rfl ?_
    exact s_M_isWord_15 (T := T) hq
/-- FeltHarnessModel.journey()I -/
def t_M_journey_27 (E : MEnv) (I : II) (T : TT) (Q : QQ) (x1 : Int32) : Prop := Q (.inl (some (.int x1))) I T
theorem s_M_journey_27 {E : MEnv} {I : II} {T : TT} {Q : QQ} {x1 : Int32} (hq : t_M_journey_27 E I T Q x1) : ev E 213 27 [none, some (.int x1)] [] I T Q := by
  unfold t_M_journey_27 at hq
  refine ev_seq 1 (ip' := 28) (loc' := [none, some (.int x1)]) (st' := [(.int x1)]) (I1 := I) (T1 := T) rfl ?_
  exact ev_ret rfl rfl hq
def t_M_journey_10 (E : MEnv) (I : II) (T : TT) (Q : QQ) (x1 : Int32) : Prop := ev E 154 0 [some (.ref 46), some (.ref 509)] [] I T (KI (fun v1 I1 T1 => (v1 = 0 → (t_M_journey_27 E I1 T1 Q x1)) ∧ (¬ (v1 = 0) → (ev E 155 0 [some (.ref 46), some (.ref 509), some (.int (I1 509 25)), none, none, none, none] [] I1 T1 (KI (fun v2 I2 T2 => (v2 = 2 → (ev E 213 10 [some (.ref 46), some (.int (x1 + 1))] [] I2 T2 Q)) ∧ (¬ (v2 = 2) → (t_M_journey_27 E I2 T2 Q x1))) (fun x I1 T1 => Q (.inr x) I1 T1))))) (fun x I1 T1 => Q (.inr x) I1 T1))
theorem s_M_journey_10 {E : MEnv} {I : II} {T : TT} {Q : QQ} {x1 : Int32} (hq : t_M_journey_10 E I T Q x1) : ev E 213 10 [some (.ref 46), some (.int x1)] [] I T Q := by
  unfold t_M_journey_10 at hq
  refine ev_seq 3 (ip' := 13) (loc' := [some (.ref 46), some (.int x1)]) (st' := [(.ref 509), (.ref 46)]) (I1 := I) (T1 := T) rfl ?_
  refine ev_callI rfl rfl rfl (fun v1 I1 T1 hq => ?_) (fun x I1 T1 hq => ?_) hq
  · refine ev_br (p := v1 = 0) (a := 27) (b := 15) (st' := []) inferInstance rfl rfl (fun hb => ?_) (fun hb => ?_)
    · have hq := hq.1 hb
      refine ev_fg [false, true] (loc' := [none, some (.int x1)]) rfl ?_
      exact s_M_journey_27 (T := T1) hq
    · have hq := hq.2 hb
      refine ev_seq 7 (ip' := 22) (loc' := [some (.ref 46), some (.int x1)]) (st' := [(.int (I1 509 25)), (.ref 509), (.ref 46)]) (I1 := I1) (T1 := T1) rfl ?_
      refine ev_callI rfl rfl rfl (fun v2 I2 T2 hq => ?_) (fun x I1 T1 hq => ?_) hq
      · refine ev_seq 1 (ip' := 24) (loc' := [some (.ref 46), some (.int x1)]) (st' := [(.int 2), (.int v2)]) (I1 := I2) (T1 := T2) rfl ?_
        refine ev_br (p := v2 = 2) (a := 25) (b := 27) (st' := []) inferInstance rfl rfl (fun hb => ?_) (fun hb => ?_)
        · have hq := hq.1 hb
          refine ev_seq 2 (ip' := 10) (loc' := [some (.ref 46), some (.int (x1 + 1))]) (st' := []) (I1 := I2) (T1 := T2) rfl ?_
          exact hq
        · have hq := hq.2 hb
          refine ev_fg [false, true] (loc' := [none, some (.int x1)]) rfl ?_
          exact s_M_journey_27 (T := T2) hq
      · exact ⟨by decide, hq⟩
  · exact ⟨by decide, hq⟩
def t_M_journey_0 (E : MEnv) (I : II) (T : TT) (Q : QQ) : Prop := ev E 147 0 [some (.ref 508), some (.ref 509), none] [] (m_up I 46 0 0) T (KV (fun I1 T1 => t_M_journey_10 E I1 T1 Q 0) (fun _ _ _ => False))
theorem s_M_journey_0 {E : MEnv} {I : II} {T : TT} {Q : QQ} (hq : t_M_journey_0 E I T Q) : ev E 213 0 [some (.ref 46), none] [] I T Q := by
  unfold t_M_journey_0 at hq
  refine ev_seq 7 (ip' := 7) (loc' := [some (.ref 46), none]) (st' := [(.ref 509), (.ref 508)]) (I1 := m_up I 46 0 0) (T1 := T) rfl ?_
  refine ev_callV rfl rfl rfl (fun I1 T1 hq => ?_) (fun x I1 T1 hq => ?_) hq
  · refine ev_seq 2 (ip' := 10) (loc' := [some (.ref 46), some (.int 0)]) (st' := []) (I1 := I1) (T1 := T1) rfl ?_
    exact s_M_journey_10 (T := T1) hq
  · exact hq.elim
/-- FeltHarnessModel.kindHere()I -/
def t_M_kindHere_47 (E : MEnv) (I : II) (T : TT) (Q : QQ) (y0 : Int32) : Prop := Q (.inl (some (.int y0))) I T
theorem s_M_kindHere_47 {E : MEnv} {I : II} {T : TT} {Q : QQ} {y0 : Int32} (hq : t_M_kindHere_47 E I T Q y0) : ev E 63 47 [none] [(.int y0)] I T Q := by
  unfold t_M_kindHere_47 at hq
  exact ev_ret rfl rfl hq
def t_M_kindHere_0 (E : MEnv) (I : II) (T : TT) (Q : QQ) : Prop := ev E 64 0 [some (.int 6), some (.int 5), some (.int 5), some (.int 12), some (.int 9), some (.int 14), none] [] I T (KI (fun v1 I1 T1 => ev E 65 0 [some (.ref 46), some (.int v1), some (.int 7), none, none] [] I1 T1 (KI (fun v2 I2 T2 => (v2 = 0 → (ev E 67 0 [some (.ref 46), some (.int 3), some (.int 12), some (.int 1), some (.int 19), some (.int 8), some (.int 0)] [] I2 T2 (KI (fun v3 I3 T3 => (v3 = 0 → (ev E 67 0 [some (.ref 46), some (.int 19), some (.int 20), some (.int 1), some (.int 7), some (.int 5), some (.int 0)] [] I3 T3 (KI (fun v4 I4 T4 => (v4 = 0 → (ev E 67 0 [some (.ref 46), some (.int 2), some (.int 5), some (.int 1), some (.int 18), some (.int 19), some (.int 0)] [] I4 T4 (KI (fun v5 I5 T5 => (v5 = 0 → (t_M_kindHere_47 E I5 T5 Q (-1))) ∧ (¬ (v5 = 0) → (t_M_kindHere_47 E I5 T5 Q 3))) (fun x I1 T1 => Q (.inr x) I1 T1)))) ∧ (¬ (v4 = 0) → (Q (.inl (some (.int 2))) I4 T4))) (fun x I1 T1 => Q (.inr x) I1 T1)))) ∧ (¬ (v3 = 0) → (Q (.inl (some (.int 1))) I3 T3))) (fun x I1 T1 => Q (.inr x) I1 T1)))) ∧ (¬ (v2 = 0) → (Q (.inl (some (.int 0))) I2 T2))) (fun x I1 T1 => Q (.inr x) I1 T1))) (fun _ _ _ => False))
theorem s_M_kindHere_0 {E : MEnv} {I : II} {T : TT} {Q : QQ} (hq : t_M_kindHere_0 E I T Q) : ev E 63 0 [some (.ref 46)] [] I T Q := by
  unfold t_M_kindHere_0 at hq
  refine ev_seq 7 (ip' := 7) (loc' := [some (.ref 46)]) (st' := [(.int 14), (.int 9), (.int 12), (.int 5), (.int 5), (.int 6), (.ref 46)]) (I1 := I) (T1 := T) rfl ?_
  refine ev_callI rfl rfl rfl (fun v1 I1 T1 hq => ?_) (fun x I1 T1 hq => ?_) hq
  · refine ev_seq 1 (ip' := 9) (loc' := [some (.ref 46)]) (st' := [(.int 7), (.int v1), (.ref 46)]) (I1 := I1) (T1 := T1) rfl ?_
    refine ev_callI rfl rfl rfl (fun v2 I2 T2 hq => ?_) (fun x I1 T1 hq => ?_) hq
    · refine ev_br (p := v2 = 0) (a := 13) (b := 11) (st' := []) inferInstance rfl rfl (fun hb => ?_) (fun hb => ?_)
      · have hq := hq.1 hb
        refine ev_seq 7 (ip' := 20) (loc' := [some (.ref 46)]) (st' := [(.int 0), (.int 8), (.int 19), (.int 1), (.int 12), (.int 3), (.ref 46)]) (I1 := I2) (T1 := T2) rfl ?_
        refine ev_callI rfl rfl rfl (fun v3 I3 T3 hq => ?_) (fun x I1 T1 hq => ?_) hq
        · refine ev_br (p := v3 = 0) (a := 24) (b := 22) (st' := []) inferInstance rfl rfl (fun hb => ?_) (fun hb => ?_)
          · have hq := hq.1 hb
            refine ev_seq 7 (ip' := 31) (loc' := [some (.ref 46)]) (st' := [(.int 0), (.int 5), (.int 7), (.int 1), (.int 20), (.int 19), (.ref 46)]) (I1 := I3) (T1 := T3) rfl ?_
            refine ev_callI rfl rfl rfl (fun v4 I4 T4 hq => ?_) (fun x I1 T1 hq => ?_) hq
            · refine ev_br (p := v4 = 0) (a := 35) (b := 33) (st' := []) inferInstance rfl rfl (fun hb => ?_) (fun hb => ?_)
              · have hq := hq.1 hb
                refine ev_seq 7 (ip' := 42) (loc' := [some (.ref 46)]) (st' := [(.int 0), (.int 19), (.int 18), (.int 1), (.int 5), (.int 2), (.ref 46)]) (I1 := I4) (T1 := T4) rfl ?_
                refine ev_callI rfl rfl rfl (fun v5 I5 T5 hq => ?_) (fun x I1 T1 hq => ?_) hq
                · refine ev_br (p := v5 = 0) (a := 46) (b := 44) (st' := []) inferInstance rfl rfl (fun hb => ?_) (fun hb => ?_)
                  · have hq := hq.1 hb
                    refine ev_seq 1 (ip' := 47) (loc' := [some (.ref 46)]) (st' := [(.int (-1))]) (I1 := I5) (T1 := T5) rfl ?_
                    refine ev_fg [false] (loc' := [none]) rfl ?_
                    exact s_M_kindHere_47 (T := T5) hq
                  · have hq := hq.2 hb
                    refine ev_seq 2 (ip' := 47) (loc' := [some (.ref 46)]) (st' := [(.int 3)]) (I1 := I5) (T1 := T5) rfl ?_
                    refine ev_fg [false] (loc' := [none]) rfl ?_
                    exact s_M_kindHere_47 (T := T5) hq
                · exact ⟨by decide, hq⟩
              · have hq := hq.2 hb
                refine ev_seq 1 (ip' := 34) (loc' := [some (.ref 46)]) (st' := [(.int 2)]) (I1 := I4) (T1 := T4) rfl ?_
                exact ev_ret rfl rfl hq
            · exact ⟨by decide, hq⟩
          · have hq := hq.2 hb
            refine ev_seq 1 (ip' := 23) (loc' := [some (.ref 46)]) (st' := [(.int 1)]) (I1 := I3) (T1 := T3) rfl ?_
            exact ev_ret rfl rfl hq
        · exact ⟨by decide, hq⟩
      · have hq := hq.2 hb
        refine ev_seq 1 (ip' := 12) (loc' := [some (.ref 46)]) (st' := [(.int 0)]) (I1 := I2) (T1 := T2) rfl ?_
        exact ev_ret rfl rfl hq
    · exact ⟨by decide, hq⟩
  · exact hq.elim
/-- FeltHarnessModel.knownHere()I -/
def t_M_knownHere_89 (E : MEnv) (I : II) (T : TT) (Q : QQ) (y0 : Int32) : Prop := Q (.inl (some (.int y0))) I T
theorem s_M_knownHere_89 {E : MEnv} {I : II} {T : TT} {Q : QQ} {y0 : Int32} (hq : t_M_knownHere_89 E I T Q y0) : ev E 91 89 [none] [(.int y0)] I T Q := by
  unfold t_M_knownHere_89 at hq
  exact ev_ret rfl rfl hq
def t_M_knownHere_0 (E : MEnv) (I : II) (T : TT) (Q : QQ) : Prop := ev E 92 0 [some (.ref 46), some (.int 16), some (.int 21), some (.int 12), some (.int 12), some (.int 0), some (.int 0), none] [] I T (KI (fun v1 I1 T1 => (v1 = 0 → (ev E 92 0 [some (.ref 46), some (.int 19), some (.int 20), some (.int 5), some (.int 1), some (.int 4), some (.int 25), none] [] I1 T1 (KI (fun v2 I2 T2 => (v2 = 0 → (ev E 92 0 [some (.ref 46), some (.int 20), some (.int 9), some (.int 7), some (.int 8), some (.int 20), some (.int 0), none] [] I2 T2 (KI (fun v3 I3 T3 => (v3 = 0 → (ev E 92 0 [some (.ref 46), some (.int 20), some (.int 9), some (.int 18), some (.int 5), some (.int 4), some (.int 0), none] [] I3 T3 (KI (fun v4 I4 T4 => (v4 = 0 → (ev E 92 0 [some (.ref 46), some (.int 16), some (.int 12), some (.int 1), some (.int 3), some (.int 5), some (.int 0), none] [] I4 T4 (KI (fun v5 I5 T5 => (v5 = 0 → (ev E 92 0 [some (.ref 46), some (.int 19), some (.int 20), some (.int 1), some (.int 7), some (.int 5), some (.int 0), none] [] I5 T5 (KI (fun v6 I6 T6 => (v6 = 0 → (ev E 92 0 [some (.ref 46), some (.int 20), some (.int 5), some (.int 1), some (.int 13), some (.int 0), some (.int 0), none] [] I6 T6 (KI (fun v7 I7 T7 => (v7 = 0 → (ev E 92 0 [some (.ref 46), some (.int 4), some (.int 1), some (.int 25), some (.int 0), some (.int 0), some (.int 0), none] [] I7 T7 (KI (fun v8 I8 T8 => (v8 = 0 → (t_M_knownHere_89 E I8 T8 Q (-1))) ∧ (¬ (v8 = 0) → (t_M_knownHere_89 E I8 T8 Q 7))) (fun x I1 T1 => Q (.inr x) I1 T1)))) ∧ (¬ (v7 = 0) → (Q (.inl (some (.int 6))) I7 T7))) (fun x I1 T1 => Q (.inr x) I1 T1)))) ∧ (¬ (v6 = 0) → (Q (.inl (some (.int 5))) I6 T6))) (fun x I1 T1 => Q (.inr x) I1 T1)))) ∧ (¬ (v5 = 0) → (Q (.inl (some (.int 4))) I5 T5))) (fun x I1 T1 => Q (.inr x) I1 T1)))) ∧ (¬ (v4 = 0) → (Q (.inl (some (.int 3))) I4 T4))) (fun x I1 T1 => Q (.inr x) I1 T1)))) ∧ (¬ (v3 = 0) → (Q (.inl (some (.int 2))) I3 T3))) (fun x I1 T1 => Q (.inr x) I1 T1)))) ∧ (¬ (v2 = 0) → (Q (.inl (some (.int 1))) I2 T2))) (fun x I1 T1 => Q (.inr x) I1 T1)))) ∧ (¬ (v1 = 0) → (Q (.inl (some (.int 0))) I1 T1))) (fun x I1 T1 => Q (.inr x) I1 T1))
theorem s_M_knownHere_0 {E : MEnv} {I : II} {T : TT} {Q : QQ} (hq : t_M_knownHere_0 E I T Q) : ev E 91 0 [some (.ref 46)] [] I T Q := by
  unfold t_M_knownHere_0 at hq
  refine ev_seq 7 (ip' := 7) (loc' := [some (.ref 46)]) (st' := [(.int 0), (.int 0), (.int 12), (.int 12), (.int 21), (.int 16), (.ref 46)]) (I1 := I) (T1 := T) rfl ?_
  refine ev_callI rfl rfl rfl (fun v1 I1 T1 hq => ?_) (fun x I1 T1 hq => ?_) hq
  · refine ev_br (p := v1 = 0) (a := 11) (b := 9) (st' := []) inferInstance rfl rfl (fun hb => ?_) (fun hb => ?_)
    · have hq := hq.1 hb
      refine ev_seq 7 (ip' := 18) (loc' := [some (.ref 46)]) (st' := [(.int 25), (.int 4), (.int 1), (.int 5), (.int 20), (.int 19), (.ref 46)]) (I1 := I1) (T1 := T1) rfl ?_
      refine ev_callI rfl rfl rfl (fun v2 I2 T2 hq => ?_) (fun x I1 T1 hq => ?_) hq
      · refine ev_br (p := v2 = 0) (a := 22) (b := 20) (st' := []) inferInstance rfl rfl (fun hb => ?_) (fun hb => ?_)
        · have hq := hq.1 hb
          refine ev_seq 7 (ip' := 29) (loc' := [some (.ref 46)]) (st' := [(.int 0), (.int 20), (.int 8), (.int 7), (.int 9), (.int 20), (.ref 46)]) (I1 := I2) (T1 := T2) rfl ?_
          refine ev_callI rfl rfl rfl (fun v3 I3 T3 hq => ?_) (fun x I1 T1 hq => ?_) hq
          · refine ev_br (p := v3 = 0) (a := 33) (b := 31) (st' := []) inferInstance rfl rfl (fun hb => ?_) (fun hb => ?_)
            · have hq := hq.1 hb
              refine ev_seq 7 (ip' := 40) (loc' := [some (.ref 46)]) (st' := [(.int 0), (.int 4), (.int 5), (.int 18), (.int 9), (.int 20), (.ref 46)]) (I1 := I3) (T1 := T3) rfl ?_
              refine ev_callI rfl rfl rfl (fun v4 I4 T4 hq => ?_) (fun x I1 T1 hq => ?_) hq
              · refine ev_br (p := v4 = 0) (a := 44) (b := 42) (st' := []) inferInstance rfl rfl (fun hb => ?_) (fun hb => ?_)
                · have hq := hq.1 hb
                  refine ev_seq 7 (ip' := 51) (loc' := [some (.ref 46)]) (st' := [(.int 0), (.int 5), (.int 3), (.int 1), (.int 12), (.int 16), (.ref 46)]) (I1 := I4) (T1 := T4) rfl ?_
                  refine ev_callI rfl rfl rfl (fun v5 I5 T5 hq => ?_) (fun x I1 T1 hq => ?_) hq
                  · refine ev_br (p := v5 = 0) (a := 55) (b := 53) (st' := []) inferInstance rfl rfl (fun hb => ?_) (fun hb => ?_)
                    · have hq := hq.1 hb
                      refine ev_seq 7 (ip' := 62) (loc' := [some (.ref 46)]) (st' := [(.int 0), (.int 5), (.int 7), (.int 1), (.int 20), (.int 19), (.ref 46)]) (I1 := I5) (T1 := T5) rfl ?_
                      refine ev_callI rfl rfl rfl (fun v6 I6 T6 hq => ?_) (fun x I1 T1 hq => ?_) hq
                      · refine ev_br (p := v6 = 0) (a := 66) (b := 64) (st' := []) inferInstance rfl rfl (fun hb => ?_) (fun hb => ?_)
                        · have hq := hq.1 hb
                          refine ev_seq 7 (ip' := 73) (loc' := [some (.ref 46)]) (st' := [(.int 0), (.int 0), (.int 13), (.int 1), (.int 5), (.int 20), (.ref 46)]) (I1 := I6) (T1 := T6) rfl ?_
                          refine ev_callI rfl rfl rfl (fun v7 I7 T7 hq => ?_) (fun x I1 T1 hq => ?_) hq
                          · refine ev_br (p := v7 = 0) (a := 77) (b := 75) (st' := []) inferInstance rfl rfl (fun hb => ?_) (fun hb => ?_)
                            · have hq := hq.1 hb
                              refine ev_seq 7 (ip' := 84) (loc' := [some (.ref 46)]) (st' := [(.int 0), (.int 0), (.int 0), (.int 25), (.int 1), (.int 4), (.ref 46)]) (I1 := I7) (T1 := T7) rfl ?_
                              refine ev_callI rfl rfl rfl (fun v8 I8 T8 hq => ?_) (fun x I1 T1 hq => ?_) hq
                              · refine ev_br (p := v8 = 0) (a := 88) (b := 86) (st' := []) inferInstance rfl rfl (fun hb => ?_) (fun hb => ?_)
                                · have hq := hq.1 hb
                                  refine ev_seq 1 (ip' := 89) (loc' := [some (.ref 46)]) (st' := [(.int (-1))]) (I1 := I8) (T1 := T8) rfl ?_
                                  refine ev_fg [false] (loc' := [none]) rfl ?_
                                  exact s_M_knownHere_89 (T := T8) hq
                                · have hq := hq.2 hb
                                  refine ev_seq 2 (ip' := 89) (loc' := [some (.ref 46)]) (st' := [(.int 7)]) (I1 := I8) (T1 := T8) rfl ?_
                                  refine ev_fg [false] (loc' := [none]) rfl ?_
                                  exact s_M_knownHere_89 (T := T8) hq
                              · exact ⟨by decide, hq⟩
                            · have hq := hq.2 hb
                              refine ev_seq 1 (ip' := 76) (loc' := [some (.ref 46)]) (st' := [(.int 6)]) (I1 := I7) (T1 := T7) rfl ?_
                              exact ev_ret rfl rfl hq
                          · exact ⟨by decide, hq⟩
                        · have hq := hq.2 hb
                          refine ev_seq 1 (ip' := 65) (loc' := [some (.ref 46)]) (st' := [(.int 5)]) (I1 := I6) (T1 := T6) rfl ?_
                          exact ev_ret rfl rfl hq
                      · exact ⟨by decide, hq⟩
                    · have hq := hq.2 hb
                      refine ev_seq 1 (ip' := 54) (loc' := [some (.ref 46)]) (st' := [(.int 4)]) (I1 := I5) (T1 := T5) rfl ?_
                      exact ev_ret rfl rfl hq
                  · exact ⟨by decide, hq⟩
                · have hq := hq.2 hb
                  refine ev_seq 1 (ip' := 43) (loc' := [some (.ref 46)]) (st' := [(.int 3)]) (I1 := I4) (T1 := T4) rfl ?_
                  exact ev_ret rfl rfl hq
              · exact ⟨by decide, hq⟩
            · have hq := hq.2 hb
              refine ev_seq 1 (ip' := 32) (loc' := [some (.ref 46)]) (st' := [(.int 2)]) (I1 := I3) (T1 := T3) rfl ?_
              exact ev_ret rfl rfl hq
          · exact ⟨by decide, hq⟩
        · have hq := hq.2 hb
          refine ev_seq 1 (ip' := 21) (loc' := [some (.ref 46)]) (st' := [(.int 1)]) (I1 := I2) (T1 := T2) rfl ?_
          exact ev_ret rfl rfl hq
      · exact ⟨by decide, hq⟩
    · have hq := hq.2 hb
      refine ev_seq 1 (ip' := 10) (loc' := [some (.ref 46)]) (st' := [(.int 0)]) (I1 := I1) (T1 := T1) rfl ?_
      exact ev_ret rfl rfl hq
  · exact ⟨by decide, hq⟩
/-- FeltHarnessModel.law(I)I -/
def t_M_law_45 (E : MEnv) (I : II) (T : TT) (Q : QQ) : Prop := ((I 46 5) = 0 → (ev E 20 0 [some (.ref 246), some (.ref 85), some (.int ((m_up (m_up I 46 3 (-1)) 46 19 ((m_up I 46 3 (-1)) 46 20)) 46 19)), none, none] [] (m_up (m_up I 46 3 (-1)) 46 19 ((m_up I 46 3 (-1)) 46 20)) T (KV (fun I1 T1 => Q (.inl (some (.int 1))) I1 T1) (fun _ _ _ => False)))) ∧ (¬ ((I 46 5) = 0) → (ev E 75 0 [some (.ref 46)] [] I T (KI (fun v2 I2 T2 => Q (.inl (some (.int v2))) I2 T2) (fun x I1 T1 => Q (.inr x) I1 T1))))
theorem s_M_law_45 {E : MEnv} {I : II} {T : TT} {Q : QQ} (hq : t_M_law_45 E I T Q) : ev E 85 45 [some (.ref 46), none] [] I T Q := by
  unfold t_M_law_45 at hq
  refine ev_seq 2 (ip' := 47) (loc' := [some (.ref 46), none]) (st' := [(.int (I 46 5))]) (I1 := I) (T1 := T) rfl ?_
  refine ev_br (p := (I 46 5) = 0) (a := 51) (b := 48) (st' := []) inferInstance rfl rfl (fun hb => ?_) (fun hb => ?_)
  · have hq := hq.1 hb
    refine ev_seq 13 (ip' := 64) (loc' := [some (.ref 46), none]) (st' := [(.int ((m_up (m_up I 46 3 (-1)) 46 19 ((m_up I 46 3 (-1)) 46 20)) 46 19)), (.ref 85), (.ref 246)]) (I1 := m_up (m_up I 46 3 (-1)) 46 19 ((m_up I 46 3 (-1)) 46 20)) (T1 := T) rfl ?_
    refine ev_callV rfl rfl rfl (fun I1 T1 hq => ?_) (fun x I1 T1 hq => ?_) hq
    · refine ev_seq 1 (ip' := 66) (loc' := [some (.ref 46), none]) (st' := [(.int 1)]) (I1 := I1) (T1 := T1) rfl ?_
      exact ev_ret rfl rfl hq
    · exact hq.elim
  · have hq := hq.2 hb
    refine ev_seq 1 (ip' := 49) (loc' := [some (.ref 46), none]) (st' := [(.ref 46)]) (I1 := I) (T1 := T) rfl ?_
    refine ev_callI rfl rfl rfl (fun v2 I2 T2 hq => ?_) (fun x I1 T1 hq => ?_) hq
    · exact ev_ret rfl rfl hq
    · exact ⟨by decide, hq⟩
def t_M_law_16 (E : MEnv) (I : II) (T : TT) (Q : QQ) (x1 : Int32) (y1 : Int32) : Prop := ev E 58 0 [some (.ref 46), some (.int y1), some (.int 1), some (.int 1)] [] I T (KI (fun v1 I1 T1 => (v1 = 0 → (ev E 59 0 [some (.ref 46), some (.int x1)] [] I1 T1 (KV (fun I2 T2 => ev E 86 0 [some (.ref 46), none] [] (m_up I2 46 20 0) T2 (KV (fun I3 T3 => ev E 60 0 [some (.ref 46)] [] I3 T3 (KV (fun I4 T4 => ((I4 46 5) = 0 → (((I4 46 2) ≤ (I4 46 4) → (t_M_law_45 E I4 T4 Q )) ∧ (¬ ((I4 46 2) ≤ (I4 46 4)) → (ev E 69 0 [some (.ref 46), some (.int 1), some (.int (I4 46 4))] [] I4 T4 (KV (fun I5 T5 => t_M_law_45 E I5 T5 Q ) (fun x I1 T1 => Q (.inr x) I1 T1)))))) ∧ (¬ ((I4 46 5) = 0) → (t_M_law_45 E I4 T4 Q ))) (fun x I1 T1 => Q (.inr x) I1 T1))) (fun x I1 T1 => Q (.inr x) I1 T1))) (fun x I1 T1 => Q (.inr x) I1 T1)))) ∧ (¬ (v1 = 0) → (Q (.inl (some (.int 0))) I1 T1))) (fun x I1 T1 => Q (.inr x) I1 T1))
theorem s_M_law_16 {E : MEnv} {I : II} {T : TT} {Q : QQ} {x1 : Int32} {y1 : Int32} (hq : t_M_law_16 E I T Q x1 y1) : ev E 85 16 [some (.ref 46), some (.int x1)] [(.int y1), (.ref 46)] I T Q := by
  unfold t_M_law_16 at hq
  refine ev_seq 2 (ip' := 18) (loc' := [some (.ref 46), some (.int x1)]) (st' := [(.int 1), (.int 1), (.int y1), (.ref 46)]) (I1 := I) (T1 := T) rfl ?_
  refine ev_callI rfl rfl rfl (fun v1 I1 T1 hq => ?_) (fun x I1 T1 hq => ?_) hq
  · refine ev_br (p := v1 = 0) (a := 22) (b := 20) (st' := []) inferInstance rfl rfl (fun hb => ?_) (fun hb => ?_)
    · have hq := hq.1 hb
      refine ev_seq 2 (ip' := 24) (loc' := [some (.ref 46), some (.int x1)]) (st' := [(.int x1), (.ref 46)]) (I1 := I1) (T1 := T1) rfl ?_
      refine ev_callV rfl rfl rfl (fun I2 T2 hq => ?_) (fun x I1 T1 hq => ?_) hq
      · refine ev_seq 4 (ip' := 29) (loc' := [some (.ref 46), some (.int x1)]) (st' := [(.ref 46)]) (I1 := m_up I2 46 20 0) (T1 := T2) rfl ?_
        refine ev_callV rfl rfl rfl (fun I3 T3 hq => ?_) (fun x I1 T1 hq => ?_) hq
        · refine ev_seq 1 (ip' := 31) (loc' := [some (.ref 46), some (.int x1)]) (st' := [(.ref 46)]) (I1 := I3) (T1 := T3) rfl ?_
          refine ev_callV rfl rfl rfl (fun I4 T4 hq => ?_) (fun x I1 T1 hq => ?_) hq
          · refine ev_seq 2 (ip' := 34) (loc' := [some (.ref 46), some (.int x1)]) (st' := [(.int (I4 46 5))]) (I1 := I4) (T1 := T4) rfl ?_
            refine ev_br (p := (I4 46 5) = 0) (a := 35) (b := 45) (st' := []) inferInstance rfl rfl (fun hb => ?_) (fun hb => ?_)
            · have hq := hq.1 hb
              refine ev_seq 4 (ip' := 39) (loc' := [some (.ref 46), some (.int x1)]) (st' := [(.int (I4 46 2)), (.int (I4 46 4))]) (I1 := I4) (T1 := T4) rfl ?_
              refine ev_br (p := (I4 46 2) ≤ (I4 46 4)) (a := 45) (b := 40) (st' := []) inferInstance rfl rfl (fun hb => ?_) (fun hb => ?_)
              · have hq := hq.1 hb
                refine ev_fg [true, false] (loc' := [some (.ref 46), none]) rfl ?_
                exact s_M_law_45 (T := T4) hq
              · have hq := hq.2 hb
                refine ev_seq 4 (ip' := 44) (loc' := [some (.ref 46), some (.int x1)]) (st' := [(.int (I4 46 4)), (.int 1), (.ref 46)]) (I1 := I4) (T1 := T4) rfl ?_
                refine ev_callV rfl rfl rfl (fun I5 T5 hq => ?_) (fun x I1 T1 hq => ?_) hq
                · refine ev_fg [true, false] (loc' := [some (.ref 46), none]) rfl ?_
                  exact s_M_law_45 (T := T5) hq
                · exact ⟨by decide, hq⟩
            · have hq := hq.2 hb
              refine ev_fg [true, false] (loc' := [some (.ref 46), none]) rfl ?_
              exact s_M_law_45 (T := T4) hq
          · exact ⟨by decide, hq⟩
        · exact ⟨by decide, hq⟩
      · exact ⟨by decide, hq⟩
    · have hq := hq.2 hb
      refine ev_seq 1 (ip' := 21) (loc' := [some (.ref 46), some (.int x1)]) (st' := [(.int 0)]) (I1 := I1) (T1 := T1) rfl ?_
      exact ev_ret rfl rfl hq
  · exact ⟨by decide, hq⟩
def t_M_law_13 (E : MEnv) (I : II) (T : TT) (Q : QQ) (x1 : Int32) : Prop := t_M_law_16 E I T Q x1 1
theorem s_M_law_13 {E : MEnv} {I : II} {T : TT} {Q : QQ} {x1 : Int32} (hq : t_M_law_13 E I T Q x1) : ev E 85 13 [some (.ref 46), some (.int x1)] [(.ref 46)] I T Q := by
  unfold t_M_law_13 at hq
  refine ev_seq 2 (ip' := 16) (loc' := [some (.ref 46), some (.int x1)]) (st' := [(.int 1), (.ref 46)]) (I1 := I) (T1 := T) rfl ?_
  exact s_M_law_16 (T := T) hq
def t_M_law_0 (E : MEnv) (I : II) (T : TT) (Q : QQ) (x1 : Int32) : Prop := ev E 57 0 [some (.int x1), some (.int 0), some (.int ((m_up I 46 0 0) 46 1))] [] (m_up I 46 0 0) T (KI (fun v1 I1 T1 => (v1 = 0 → (t_M_law_13 E I1 T1 Q x1)) ∧ (¬ (v1 = 0) → ((x1 ≤ 150 → (t_M_law_16 E I1 T1 Q x1 0)) ∧ (¬ (x1 ≤ 150) → (t_M_law_13 E I1 T1 Q x1))))) (fun _ _ _ => False))
theorem s_M_law_0 {E : MEnv} {I : II} {T : TT} {Q : QQ} {x1 : Int32} (hq : t_M_law_0 E I T Q x1) : ev E 85 0 [some (.ref 46), some (.int x1)] [] I T Q := by
  unfold t_M_law_0 at hq
  refine ev_seq 8 (ip' := 8) (loc' := [some (.ref 46), some (.int x1)]) (st' := [(.int ((m_up I 46 0 0) 46 1)), (.int 0), (.int x1), (.ref 46)]) (I1 := m_up I 46 0 0) (T1 := T) rfl ?_
  refine ev_callI rfl rfl rfl (fun v1 I1 T1 hq => ?_) (fun x I1 T1 hq => ?_) hq
  · refine ev_br (p := v1 = 0) (a := 13) (b := 10) (st' := [(.ref 46)]) inferInstance rfl rfl (fun hb => ?_) (fun hb => ?_)
    · have hq := hq.1 hb
      exact s_M_law_13 (T := T1) hq
    · have hq := hq.2 hb
      refine ev_seq 2 (ip' := 12) (loc' := [some (.ref 46), some (.int x1)]) (st' := [(.int 150), (.int x1), (.ref 46)]) (I1 := I1) (T1 := T1) rfl ?_
      refine ev_br (p := x1 ≤ 150) (a := 15) (b := 13) (st' := [(.ref 46)]) inferInstance rfl rfl (fun hb => ?_) (fun hb => ?_)
      · have hq := hq.1 hb
        refine ev_seq 1 (ip' := 16) (loc' := [some (.ref 46), some (.int x1)]) (st' := [(.int 0), (.ref 46)]) (I1 := I1) (T1 := T1) rfl ?_
        exact s_M_law_16 (T := T1) hq
      · have hq := hq.2 hb
        exact s_M_law_13 (T := T1) hq
  · exact hq.elim
/-- FeltHarnessModel.laysStalls()I -/
def t_M_laysStalls_2 (E : MEnv) (I : II) (T : TT) (Q : QQ) (x1 : Int32) : Prop := ev E 238 0 [some (.ref 46), some (.int 0), some (.int x1), none, none, none] [] I T (KI (fun v1 I1 T1 => (v1 = 0 → (ev E 237 2 [some (.ref 46), some (.int (x1 + 1))] [] I1 T1 Q)) ∧ (¬ (v1 = 0) → (Q (.inl (some (.int x1))) I1 T1))) (fun x I1 T1 => Q (.inr x) I1 T1))
theorem s_M_laysStalls_2 {E : MEnv} {I : II} {T : TT} {Q : QQ} {x1 : Int32} (hq : t_M_laysStalls_2 E I T Q x1) : ev E 237 2 [some (.ref 46), some (.int x1)] [] I T Q := by
  unfold t_M_laysStalls_2 at hq
  refine ev_seq 3 (ip' := 5) (loc' := [some (.ref 46), some (.int x1)]) (st' := [(.int x1), (.int 0), (.ref 46)]) (I1 := I) (T1 := T) rfl ?_
  refine ev_callI rfl rfl rfl (fun v1 I1 T1 hq => ?_) (fun x I1 T1 hq => ?_) hq
  · refine ev_br (p := v1 = 0) (a := 7) (b := 9) (st' := []) inferInstance rfl rfl (fun hb => ?_) (fun hb => ?_)
    · have hq := hq.1 hb
      refine ev_seq 2 (ip' := 2) (loc' := [some (.ref 46), some (.int (x1 + 1))]) (st' := []) (I1 := I1) (T1 := T1) rfl ?_
      exact hq
    · have hq := hq.2 hb
      refine ev_seq 1 (ip' := 10) (loc' := [some (.ref 46), some (.int x1)]) (st' := [(.int x1)]) (I1 := I1) (T1 := T1) rfl ?_
      exact ev_ret rfl rfl hq
  · exact ⟨by decide, hq⟩
def t_M_laysStalls_0 (E : MEnv) (I : II) (T : TT) (Q : QQ) : Prop := t_M_laysStalls_2 E I T Q 0
theorem s_M_laysStalls_0 {E : MEnv} {I : II} {T : TT} {Q : QQ} (hq : t_M_laysStalls_0 E I T Q) : ev E 237 0 [some (.ref 46), none] [] I T Q := by
  unfold t_M_laysStalls_0 at hq
  refine ev_seq 2 (ip' := 2) (loc' := [some (.ref 46), some (.int 0)]) (st' := []) (I1 := I) (T1 := T) rfl ?_
  exact s_M_laysStalls_2 (T := T) hq
/-- FeltHarnessModel.laysTeam(I)V -/
def t_M_laysTeam_8 (E : MEnv) (I : II) (T : TT) (Q : QQ) (x1 : Int32) (x2 : Int32) : Prop := (4 ≤ x2 → (ev E 226 0 [some (.ref 46), some (.int x1), some (.int 0), some (.int 0), some (.int 0), none] [] I T (KV (fun I1 T1 => Q (.inl none) I1 T1) (fun x I1 T1 => Q (.inr x) I1 T1)))) ∧ (¬ (4 ≤ x2) → ((¬ x2 < 0 ∧ x2.toNatClampNeg < 4) ∧ (ev E 225 8 [some (.ref 46), some (.int x1), some (.int (x2 + 1))] [] (m_up I 532 x2.toNatClampNeg (-1)) T Q)))
theorem s_M_laysTeam_8 {E : MEnv} {I : II} {T : TT} {Q : QQ} {x1 : Int32} {x2 : Int32} (hq : t_M_laysTeam_8 E I T Q x1 x2) : ev E 225 8 [some (.ref 46), some (.int x1), some (.int x2)] [] I T Q := by
  unfold t_M_laysTeam_8 at hq
  refine ev_seq 2 (ip' := 10) (loc' := [some (.ref 46), some (.int x1), some (.int x2)]) (st' := [(.int 4), (.int x2)]) (I1 := I) (T1 := T) rfl ?_
  refine ev_br (p := 4 ≤ x2) (a := 18) (b := 11) (st' := []) inferInstance rfl rfl (fun hb => ?_) (fun hb => ?_)
  · have hq := hq.1 hb
    refine ev_seq 5 (ip' := 23) (loc' := [some (.ref 46), some (.int x1), some (.int x2)]) (st' := [(.int 0), (.int 0), (.int 0), (.int x1), (.ref 46)]) (I1 := I) (T1 := T) rfl ?_
    refine ev_callV rfl rfl rfl (fun I1 T1 hq => ?_) (fun x I1 T1 hq => ?_) hq
    · exact ev_ret rfl rfl hq
    · exact ⟨by decide, hq⟩
  · have hq := hq.2 hb
    refine ev_seq 4 (ip' := 15) (loc' := [some (.ref 46), some (.int x1), some (.int x2)]) (st' := [(.int (-1)), (.int x2), (.ref 532)]) (I1 := I) (T1 := T) rfl ?_
    obtain ⟨hg, hq⟩ := hq
    refine ev_iast rfl rfl hg ?_
    refine ev_seq 2 (ip' := 8) (loc' := [some (.ref 46), some (.int x1), some (.int (x2 + 1))]) (st' := []) (I1 := m_up I 532 x2.toNatClampNeg (-1)) (T1 := T) rfl ?_
    exact hq
def t_M_laysTeam_0 (E : MEnv) (I : II) (T : TT) (Q : QQ) (x1 : Int32) : Prop := t_M_laysTeam_8 E (m_up (m_up I 46 42 (-1)) 46 43 (-1)) T Q x1 0
theorem s_M_laysTeam_0 {E : MEnv} {I : II} {T : TT} {Q : QQ} {x1 : Int32} (hq : t_M_laysTeam_0 E I T Q x1) : ev E 225 0 [some (.ref 46), some (.int x1), none] [] I T Q := by
  unfold t_M_laysTeam_0 at hq
  refine ev_seq 8 (ip' := 8) (loc' := [some (.ref 46), some (.int x1), some (.int 0)]) (st' := []) (I1 := m_up (m_up I 46 42 (-1)) 46 43 (-1)) (T1 := T) rfl ?_
  exact s_M_laysTeam_8 (T := T) hq
/-- FeltHarnessModel.lays([[I[[II)V -/
def t_M_lays_246_85_7 (E : MEnv) (I : II) (T : TT) (Q : QQ) (x2 : Int32) (x3 : Int32) (x4 : Int32) : Prop := (¬ x3 < 0 ∧ x3.toNatClampNeg < 160) ∧ ((2 ≤ x4 → (ev E 20 2 [some (.ref 246), some (.ref 85), some (.int x2), some (.int (x3 + 1)), none] [] I T Q)) ∧ (¬ (2 ≤ x4) → ((¬ x3 < 0 ∧ x3.toNatClampNeg < 160) ∧ ((¬ x3 < 0 ∧ x3.toNatClampNeg < 160) ∧ ((¬ x4 < 0 ∧ x4.toNatClampNeg < 2) ∧ ((¬ x4 < 0 ∧ x4.toNatClampNeg < 2) ∧ (ev E 20 7 [some (.ref 246), some (.ref 85), some (.int x2), some (.int x3), some (.int (x4 + 1))] [] (m_up I (86 + x3.toNatClampNeg) x4.toNatClampNeg (I (247 + x3.toNatClampNeg) x4.toNatClampNeg)) T Q)))))))
theorem s_M_lays_246_85_7 {E : MEnv} {I : II} {T : TT} {Q : QQ} {x2 : Int32} {x3 : Int32} {x4 : Int32} (hq : t_M_lays_246_85_7 E I T Q x2 x3 x4) : ev E 20 7 [some (.ref 246), some (.ref 85), some (.int x2), some (.int x3), some (.int x4)] [] I T Q := by
  unfold t_M_lays_246_85_7 at hq
  refine ev_seq 3 (ip' := 10) (loc' := [some (.ref 246), some (.ref 85), some (.int x2), some (.int x3), some (.int x4)]) (st' := [(.int x3), (.ref 85), (.int x4)]) (I1 := I) (T1 := T) rfl ?_
  obtain ⟨hg, hq⟩ := hq
  have hr1 := hg
  refine ev_aald rfl rfl hg (RF_85 hg.2) ?_
  refine ev_alen rfl (KF_85 hr1.2) ?_
  refine ev_br (p := 2 ≤ x4) (a := 25) (b := 13) (st' := []) inferInstance rfl rfl (fun hb => ?_) (fun hb => ?_)
  · have hq := hq.1 hb
    refine ev_seq 2 (ip' := 2) (loc' := [some (.ref 246), some (.ref 85), some (.int x2), some (.int (x3 + 1)), some (.int x4)]) (st' := []) (I1 := I) (T1 := T) rfl ?_
    refine ev_fg [true, true, true, true, false] (loc' := [some (.ref 246), some (.ref 85), some (.int x2), some (.int (x3 + 1)), none]) rfl ?_
    exact hq
  · have hq := hq.2 hb
    refine ev_seq 2 (ip' := 15) (loc' := [some (.ref 246), some (.ref 85), some (.int x2), some (.int x3), some (.int x4)]) (st' := [(.int x3), (.ref 85)]) (I1 := I) (T1 := T) rfl ?_
    obtain ⟨hg, hq⟩ := hq
    have hr2 := hg
    refine ev_aald rfl rfl hg (RF_85 hg.2) ?_
    refine ev_seq 3 (ip' := 19) (loc' := [some (.ref 246), some (.ref 85), some (.int x2), some (.int x3), some (.int x4)]) (st' := [(.int x3), (.ref 246), (.int x4), (.ref (86 + x3.toNatClampNeg))]) (I1 := I) (T1 := T) rfl ?_
    obtain ⟨hg, hq⟩ := hq
    have hr3 := hg
    refine ev_aald rfl rfl hg (RF_246 hg.2) ?_
    refine ev_seq 1 (ip' := 21) (loc' := [some (.ref 246), some (.ref 85), some (.int x2), some (.int x3), some (.int x4)]) (st' := [(.int x4), (.ref (247 + x3.toNatClampNeg)), (.int x4), (.ref (86 + x3.toNatClampNeg))]) (I1 := I) (T1 := T) rfl ?_
    obtain ⟨hg, hq⟩ := hq
    refine ev_iald rfl (KF_246 hr3.2) hg ?_
    obtain ⟨hg, hq⟩ := hq
    refine ev_iast rfl (KF_85 hr2.2) hg ?_
    refine ev_seq 2 (ip' := 7) (loc' := [some (.ref 246), some (.ref 85), some (.int x2), some (.int x3), some (.int (x4 + 1))]) (st' := []) (I1 := m_up I (86 + x3.toNatClampNeg) x4.toNatClampNeg (I (247 + x3.toNatClampNeg) x4.toNatClampNeg)) (T1 := T) rfl ?_
    exact hq
def t_M_lays_246_85_2 (E : MEnv) (I : II) (T : TT) (Q : QQ) (x2 : Int32) (x3 : Int32) : Prop := (x2 ≤ x3 → (Q (.inl none) I T)) ∧ (¬ (x2 ≤ x3) → (t_M_lays_246_85_7 E I T Q x2 x3 0))
theorem s_M_lays_246_85_2 {E : MEnv} {I : II} {T : TT} {Q : QQ} {x2 : Int32} {x3 : Int32} (hq : t_M_lays_246_85_2 E I T Q x2 x3) : ev E 20 2 [some (.ref 246), some (.ref 85), some (.int x2), some (.int x3), none] [] I T Q := by
  unfold t_M_lays_246_85_2 at hq
  refine ev_seq 2 (ip' := 4) (loc' := [some (.ref 246), some (.ref 85), some (.int x2), some (.int x3), none]) (st' := [(.int x2), (.int x3)]) (I1 := I) (T1 := T) rfl ?_
  refine ev_br (p := x2 ≤ x3) (a := 27) (b := 5) (st' := []) inferInstance rfl rfl (fun hb => ?_) (fun hb => ?_)
  · have hq := hq.1 hb
    exact ev_ret rfl rfl hq
  · have hq := hq.2 hb
    refine ev_seq 2 (ip' := 7) (loc' := [some (.ref 246), some (.ref 85), some (.int x2), some (.int x3), some (.int 0)]) (st' := []) (I1 := I) (T1 := T) rfl ?_
    exact s_M_lays_246_85_7 (T := T) hq
def t_M_lays_246_85_0 (E : MEnv) (I : II) (T : TT) (Q : QQ) (x2 : Int32) : Prop := t_M_lays_246_85_2 E I T Q x2 0
theorem s_M_lays_246_85_0 {E : MEnv} {I : II} {T : TT} {Q : QQ} {x2 : Int32} (hq : t_M_lays_246_85_0 E I T Q x2) : ev E 20 0 [some (.ref 246), some (.ref 85), some (.int x2), none, none] [] I T Q := by
  unfold t_M_lays_246_85_0 at hq
  refine ev_seq 2 (ip' := 2) (loc' := [some (.ref 246), some (.ref 85), some (.int x2), some (.int 0), none]) (st' := []) (I1 := I) (T1 := T) rfl ?_
  exact s_M_lays_246_85_2 (T := T) hq
/-- FeltHarnessModel.lays([[I[[II)V -/
def t_M_lays_416_407_7 (E : MEnv) (I : II) (T : TT) (Q : QQ) (x2 : Int32) (x3 : Int32) (x4 : Int32) : Prop := (¬ x3 < 0 ∧ x3.toNatClampNeg < 8) ∧ ((2 ≤ x4 → (ev E 20 2 [some (.ref 416), some (.ref 407), some (.int x2), some (.int (x3 + 1)), none] [] I T Q)) ∧ (¬ (2 ≤ x4) → ((¬ x3 < 0 ∧ x3.toNatClampNeg < 8) ∧ ((¬ x3 < 0 ∧ x3.toNatClampNeg < 8) ∧ ((¬ x4 < 0 ∧ x4.toNatClampNeg < 2) ∧ ((¬ x4 < 0 ∧ x4.toNatClampNeg < 2) ∧ (ev E 20 7 [some (.ref 416), some (.ref 407), some (.int x2), some (.int x3), some (.int (x4 + 1))] [] (m_up I (408 + x3.toNatClampNeg) x4.toNatClampNeg (I (417 + x3.toNatClampNeg) x4.toNatClampNeg)) T Q)))))))
theorem s_M_lays_416_407_7 {E : MEnv} {I : II} {T : TT} {Q : QQ} {x2 : Int32} {x3 : Int32} {x4 : Int32} (hq : t_M_lays_416_407_7 E I T Q x2 x3 x4) : ev E 20 7 [some (.ref 416), some (.ref 407), some (.int x2), some (.int x3), some (.int x4)] [] I T Q := by
  unfold t_M_lays_416_407_7 at hq
  refine ev_seq 3 (ip' := 10) (loc' := [some (.ref 416), some (.ref 407), some (.int x2), some (.int x3), some (.int x4)]) (st' := [(.int x3), (.ref 407), (.int x4)]) (I1 := I) (T1 := T) rfl ?_
  obtain ⟨hg, hq⟩ := hq
  have hr1 := hg
  refine ev_aald rfl rfl hg (RF_407 hg.2) ?_
  refine ev_alen rfl (KF_407 hr1.2) ?_
  refine ev_br (p := 2 ≤ x4) (a := 25) (b := 13) (st' := []) inferInstance rfl rfl (fun hb => ?_) (fun hb => ?_)
  · have hq := hq.1 hb
    refine ev_seq 2 (ip' := 2) (loc' := [some (.ref 416), some (.ref 407), some (.int x2), some (.int (x3 + 1)), some (.int x4)]) (st' := []) (I1 := I) (T1 := T) rfl ?_
    refine ev_fg [true, true, true, true, false] (loc' := [some (.ref 416), some (.ref 407), some (.int x2), some (.int (x3 + 1)), none]) rfl ?_
    exact hq
  · have hq := hq.2 hb
    refine ev_seq 2 (ip' := 15) (loc' := [some (.ref 416), some (.ref 407), some (.int x2), some (.int x3), some (.int x4)]) (st' := [(.int x3), (.ref 407)]) (I1 := I) (T1 := T) rfl ?_
    obtain ⟨hg, hq⟩ := hq
    have hr2 := hg
    refine ev_aald rfl rfl hg (RF_407 hg.2) ?_
    refine ev_seq 3 (ip' := 19) (loc' := [some (.ref 416), some (.ref 407), some (.int x2), some (.int x3), some (.int x4)]) (st' := [(.int x3), (.ref 416), (.int x4), (.ref (408 + x3.toNatClampNeg))]) (I1 := I) (T1 := T) rfl ?_
    obtain ⟨hg, hq⟩ := hq
    have hr3 := hg
    refine ev_aald rfl rfl hg (RF_416 hg.2) ?_
    refine ev_seq 1 (ip' := 21) (loc' := [some (.ref 416), some (.ref 407), some (.int x2), some (.int x3), some (.int x4)]) (st' := [(.int x4), (.ref (417 + x3.toNatClampNeg)), (.int x4), (.ref (408 + x3.toNatClampNeg))]) (I1 := I) (T1 := T) rfl ?_
    obtain ⟨hg, hq⟩ := hq
    refine ev_iald rfl (KF_416 hr3.2) hg ?_
    obtain ⟨hg, hq⟩ := hq
    refine ev_iast rfl (KF_407 hr2.2) hg ?_
    refine ev_seq 2 (ip' := 7) (loc' := [some (.ref 416), some (.ref 407), some (.int x2), some (.int x3), some (.int (x4 + 1))]) (st' := []) (I1 := m_up I (408 + x3.toNatClampNeg) x4.toNatClampNeg (I (417 + x3.toNatClampNeg) x4.toNatClampNeg)) (T1 := T) rfl ?_
    exact hq
def t_M_lays_416_407_2 (E : MEnv) (I : II) (T : TT) (Q : QQ) (x2 : Int32) (x3 : Int32) : Prop := (x2 ≤ x3 → (Q (.inl none) I T)) ∧ (¬ (x2 ≤ x3) → (t_M_lays_416_407_7 E I T Q x2 x3 0))
theorem s_M_lays_416_407_2 {E : MEnv} {I : II} {T : TT} {Q : QQ} {x2 : Int32} {x3 : Int32} (hq : t_M_lays_416_407_2 E I T Q x2 x3) : ev E 20 2 [some (.ref 416), some (.ref 407), some (.int x2), some (.int x3), none] [] I T Q := by
  unfold t_M_lays_416_407_2 at hq
  refine ev_seq 2 (ip' := 4) (loc' := [some (.ref 416), some (.ref 407), some (.int x2), some (.int x3), none]) (st' := [(.int x2), (.int x3)]) (I1 := I) (T1 := T) rfl ?_
  refine ev_br (p := x2 ≤ x3) (a := 27) (b := 5) (st' := []) inferInstance rfl rfl (fun hb => ?_) (fun hb => ?_)
  · have hq := hq.1 hb
    exact ev_ret rfl rfl hq
  · have hq := hq.2 hb
    refine ev_seq 2 (ip' := 7) (loc' := [some (.ref 416), some (.ref 407), some (.int x2), some (.int x3), some (.int 0)]) (st' := []) (I1 := I) (T1 := T) rfl ?_
    exact s_M_lays_416_407_7 (T := T) hq
def t_M_lays_416_407_0 (E : MEnv) (I : II) (T : TT) (Q : QQ) (x2 : Int32) : Prop := t_M_lays_416_407_2 E I T Q x2 0
theorem s_M_lays_416_407_0 {E : MEnv} {I : II} {T : TT} {Q : QQ} {x2 : Int32} (hq : t_M_lays_416_407_0 E I T Q x2) : ev E 20 0 [some (.ref 416), some (.ref 407), some (.int x2), none, none] [] I T Q := by
  unfold t_M_lays_416_407_0 at hq
  refine ev_seq 2 (ip' := 2) (loc' := [some (.ref 416), some (.ref 407), some (.int x2), some (.int 0), none]) (st' := []) (I1 := I) (T1 := T) rfl ?_
  exact s_M_lays_416_407_2 (T := T) hq
/-- FeltHarnessModel.lays([[I[[II)V -/
def t_M_lays_51_60_7 (E : MEnv) (I : II) (T : TT) (Q : QQ) (x2 : Int32) (x3 : Int32) (x4 : Int32) : Prop := (¬ x3 < 0 ∧ x3.toNatClampNeg < 8) ∧ ((2 ≤ x4 → (ev E 20 2 [some (.ref 51), some (.ref 60), some (.int x2), some (.int (x3 + 1)), none] [] I T Q)) ∧ (¬ (2 ≤ x4) → ((¬ x3 < 0 ∧ x3.toNatClampNeg < 8) ∧ ((¬ x3 < 0 ∧ x3.toNatClampNeg < 8) ∧ ((¬ x4 < 0 ∧ x4.toNatClampNeg < 2) ∧ ((¬ x4 < 0 ∧ x4.toNatClampNeg < 2) ∧ (ev E 20 7 [some (.ref 51), some (.ref 60), some (.int x2), some (.int x3), some (.int (x4 + 1))] [] (m_up I (61 + x3.toNatClampNeg) x4.toNatClampNeg (I (52 + x3.toNatClampNeg) x4.toNatClampNeg)) T Q)))))))
theorem s_M_lays_51_60_7 {E : MEnv} {I : II} {T : TT} {Q : QQ} {x2 : Int32} {x3 : Int32} {x4 : Int32} (hq : t_M_lays_51_60_7 E I T Q x2 x3 x4) : ev E 20 7 [some (.ref 51), some (.ref 60), some (.int x2), some (.int x3), some (.int x4)] [] I T Q := by
  unfold t_M_lays_51_60_7 at hq
  refine ev_seq 3 (ip' := 10) (loc' := [some (.ref 51), some (.ref 60), some (.int x2), some (.int x3), some (.int x4)]) (st' := [(.int x3), (.ref 60), (.int x4)]) (I1 := I) (T1 := T) rfl ?_
  obtain ⟨hg, hq⟩ := hq
  have hr1 := hg
  refine ev_aald rfl rfl hg (RF_60 hg.2) ?_
  refine ev_alen rfl (KF_60 hr1.2) ?_
  refine ev_br (p := 2 ≤ x4) (a := 25) (b := 13) (st' := []) inferInstance rfl rfl (fun hb => ?_) (fun hb => ?_)
  · have hq := hq.1 hb
    refine ev_seq 2 (ip' := 2) (loc' := [some (.ref 51), some (.ref 60), some (.int x2), some (.int (x3 + 1)), some (.int x4)]) (st' := []) (I1 := I) (T1 := T) rfl ?_
    refine ev_fg [true, true, true, true, false] (loc' := [some (.ref 51), some (.ref 60), some (.int x2), some (.int (x3 + 1)), none]) rfl ?_
    exact hq
  · have hq := hq.2 hb
    refine ev_seq 2 (ip' := 15) (loc' := [some (.ref 51), some (.ref 60), some (.int x2), some (.int x3), some (.int x4)]) (st' := [(.int x3), (.ref 60)]) (I1 := I) (T1 := T) rfl ?_
    obtain ⟨hg, hq⟩ := hq
    have hr2 := hg
    refine ev_aald rfl rfl hg (RF_60 hg.2) ?_
    refine ev_seq 3 (ip' := 19) (loc' := [some (.ref 51), some (.ref 60), some (.int x2), some (.int x3), some (.int x4)]) (st' := [(.int x3), (.ref 51), (.int x4), (.ref (61 + x3.toNatClampNeg))]) (I1 := I) (T1 := T) rfl ?_
    obtain ⟨hg, hq⟩ := hq
    have hr3 := hg
    refine ev_aald rfl rfl hg (RF_51 hg.2) ?_
    refine ev_seq 1 (ip' := 21) (loc' := [some (.ref 51), some (.ref 60), some (.int x2), some (.int x3), some (.int x4)]) (st' := [(.int x4), (.ref (52 + x3.toNatClampNeg)), (.int x4), (.ref (61 + x3.toNatClampNeg))]) (I1 := I) (T1 := T) rfl ?_
    obtain ⟨hg, hq⟩ := hq
    refine ev_iald rfl (KF_51 hr3.2) hg ?_
    obtain ⟨hg, hq⟩ := hq
    refine ev_iast rfl (KF_60 hr2.2) hg ?_
    refine ev_seq 2 (ip' := 7) (loc' := [some (.ref 51), some (.ref 60), some (.int x2), some (.int x3), some (.int (x4 + 1))]) (st' := []) (I1 := m_up I (61 + x3.toNatClampNeg) x4.toNatClampNeg (I (52 + x3.toNatClampNeg) x4.toNatClampNeg)) (T1 := T) rfl ?_
    exact hq
def t_M_lays_51_60_2 (E : MEnv) (I : II) (T : TT) (Q : QQ) (x2 : Int32) (x3 : Int32) : Prop := (x2 ≤ x3 → (Q (.inl none) I T)) ∧ (¬ (x2 ≤ x3) → (t_M_lays_51_60_7 E I T Q x2 x3 0))
theorem s_M_lays_51_60_2 {E : MEnv} {I : II} {T : TT} {Q : QQ} {x2 : Int32} {x3 : Int32} (hq : t_M_lays_51_60_2 E I T Q x2 x3) : ev E 20 2 [some (.ref 51), some (.ref 60), some (.int x2), some (.int x3), none] [] I T Q := by
  unfold t_M_lays_51_60_2 at hq
  refine ev_seq 2 (ip' := 4) (loc' := [some (.ref 51), some (.ref 60), some (.int x2), some (.int x3), none]) (st' := [(.int x2), (.int x3)]) (I1 := I) (T1 := T) rfl ?_
  refine ev_br (p := x2 ≤ x3) (a := 27) (b := 5) (st' := []) inferInstance rfl rfl (fun hb => ?_) (fun hb => ?_)
  · have hq := hq.1 hb
    exact ev_ret rfl rfl hq
  · have hq := hq.2 hb
    refine ev_seq 2 (ip' := 7) (loc' := [some (.ref 51), some (.ref 60), some (.int x2), some (.int x3), some (.int 0)]) (st' := []) (I1 := I) (T1 := T) rfl ?_
    exact s_M_lays_51_60_7 (T := T) hq
def t_M_lays_51_60_0 (E : MEnv) (I : II) (T : TT) (Q : QQ) (x2 : Int32) : Prop := t_M_lays_51_60_2 E I T Q x2 0
theorem s_M_lays_51_60_0 {E : MEnv} {I : II} {T : TT} {Q : QQ} {x2 : Int32} (hq : t_M_lays_51_60_0 E I T Q x2) : ev E 20 0 [some (.ref 51), some (.ref 60), some (.int x2), none, none] [] I T Q := by
  unfold t_M_lays_51_60_0 at hq
  refine ev_seq 2 (ip' := 2) (loc' := [some (.ref 51), some (.ref 60), some (.int x2), some (.int 0), none]) (st' := []) (I1 := I) (T1 := T) rfl ?_
  exact s_M_lays_51_60_2 (T := T) hq
/-- FeltHarnessModel.lays([[I[[II)V -/
def t_M_lays_69_76_7 (E : MEnv) (I : II) (T : TT) (Q : QQ) (x2 : Int32) (x3 : Int32) (x4 : Int32) : Prop := (¬ x3 < 0 ∧ x3.toNatClampNeg < 6) ∧ ((2 ≤ x4 → (ev E 20 2 [some (.ref 69), some (.ref 76), some (.int x2), some (.int (x3 + 1)), none] [] I T Q)) ∧ (¬ (2 ≤ x4) → ((¬ x3 < 0 ∧ x3.toNatClampNeg < 6) ∧ ((¬ x3 < 0 ∧ x3.toNatClampNeg < 6) ∧ ((¬ x4 < 0 ∧ x4.toNatClampNeg < 2) ∧ ((¬ x4 < 0 ∧ x4.toNatClampNeg < 2) ∧ (ev E 20 7 [some (.ref 69), some (.ref 76), some (.int x2), some (.int x3), some (.int (x4 + 1))] [] (m_up I (77 + x3.toNatClampNeg) x4.toNatClampNeg (I (70 + x3.toNatClampNeg) x4.toNatClampNeg)) T Q)))))))
theorem s_M_lays_69_76_7 {E : MEnv} {I : II} {T : TT} {Q : QQ} {x2 : Int32} {x3 : Int32} {x4 : Int32} (hq : t_M_lays_69_76_7 E I T Q x2 x3 x4) : ev E 20 7 [some (.ref 69), some (.ref 76), some (.int x2), some (.int x3), some (.int x4)] [] I T Q := by
  unfold t_M_lays_69_76_7 at hq
  refine ev_seq 3 (ip' := 10) (loc' := [some (.ref 69), some (.ref 76), some (.int x2), some (.int x3), some (.int x4)]) (st' := [(.int x3), (.ref 76), (.int x4)]) (I1 := I) (T1 := T) rfl ?_
  obtain ⟨hg, hq⟩ := hq
  have hr1 := hg
  refine ev_aald rfl rfl hg (RF_76 hg.2) ?_
  refine ev_alen rfl (KF_76 hr1.2) ?_
  refine ev_br (p := 2 ≤ x4) (a := 25) (b := 13) (st' := []) inferInstance rfl rfl (fun hb => ?_) (fun hb => ?_)
  · have hq := hq.1 hb
    refine ev_seq 2 (ip' := 2) (loc' := [some (.ref 69), some (.ref 76), some (.int x2), some (.int (x3 + 1)), some (.int x4)]) (st' := []) (I1 := I) (T1 := T) rfl ?_
    refine ev_fg [true, true, true, true, false] (loc' := [some (.ref 69), some (.ref 76), some (.int x2), some (.int (x3 + 1)), none]) rfl ?_
    exact hq
  · have hq := hq.2 hb
    refine ev_seq 2 (ip' := 15) (loc' := [some (.ref 69), some (.ref 76), some (.int x2), some (.int x3), some (.int x4)]) (st' := [(.int x3), (.ref 76)]) (I1 := I) (T1 := T) rfl ?_
    obtain ⟨hg, hq⟩ := hq
    have hr2 := hg
    refine ev_aald rfl rfl hg (RF_76 hg.2) ?_
    refine ev_seq 3 (ip' := 19) (loc' := [some (.ref 69), some (.ref 76), some (.int x2), some (.int x3), some (.int x4)]) (st' := [(.int x3), (.ref 69), (.int x4), (.ref (77 + x3.toNatClampNeg))]) (I1 := I) (T1 := T) rfl ?_
    obtain ⟨hg, hq⟩ := hq
    have hr3 := hg
    refine ev_aald rfl rfl hg (RF_69 hg.2) ?_
    refine ev_seq 1 (ip' := 21) (loc' := [some (.ref 69), some (.ref 76), some (.int x2), some (.int x3), some (.int x4)]) (st' := [(.int x4), (.ref (70 + x3.toNatClampNeg)), (.int x4), (.ref (77 + x3.toNatClampNeg))]) (I1 := I) (T1 := T) rfl ?_
    obtain ⟨hg, hq⟩ := hq
    refine ev_iald rfl (KF_69 hr3.2) hg ?_
    obtain ⟨hg, hq⟩ := hq
    refine ev_iast rfl (KF_76 hr2.2) hg ?_
    refine ev_seq 2 (ip' := 7) (loc' := [some (.ref 69), some (.ref 76), some (.int x2), some (.int x3), some (.int (x4 + 1))]) (st' := []) (I1 := m_up I (77 + x3.toNatClampNeg) x4.toNatClampNeg (I (70 + x3.toNatClampNeg) x4.toNatClampNeg)) (T1 := T) rfl ?_
    exact hq
def t_M_lays_69_76_2 (E : MEnv) (I : II) (T : TT) (Q : QQ) (x2 : Int32) (x3 : Int32) : Prop := (x2 ≤ x3 → (Q (.inl none) I T)) ∧ (¬ (x2 ≤ x3) → (t_M_lays_69_76_7 E I T Q x2 x3 0))
theorem s_M_lays_69_76_2 {E : MEnv} {I : II} {T : TT} {Q : QQ} {x2 : Int32} {x3 : Int32} (hq : t_M_lays_69_76_2 E I T Q x2 x3) : ev E 20 2 [some (.ref 69), some (.ref 76), some (.int x2), some (.int x3), none] [] I T Q := by
  unfold t_M_lays_69_76_2 at hq
  refine ev_seq 2 (ip' := 4) (loc' := [some (.ref 69), some (.ref 76), some (.int x2), some (.int x3), none]) (st' := [(.int x2), (.int x3)]) (I1 := I) (T1 := T) rfl ?_
  refine ev_br (p := x2 ≤ x3) (a := 27) (b := 5) (st' := []) inferInstance rfl rfl (fun hb => ?_) (fun hb => ?_)
  · have hq := hq.1 hb
    exact ev_ret rfl rfl hq
  · have hq := hq.2 hb
    refine ev_seq 2 (ip' := 7) (loc' := [some (.ref 69), some (.ref 76), some (.int x2), some (.int x3), some (.int 0)]) (st' := []) (I1 := I) (T1 := T) rfl ?_
    exact s_M_lays_69_76_7 (T := T) hq
def t_M_lays_69_76_0 (E : MEnv) (I : II) (T : TT) (Q : QQ) (x2 : Int32) : Prop := t_M_lays_69_76_2 E I T Q x2 0
theorem s_M_lays_69_76_0 {E : MEnv} {I : II} {T : TT} {Q : QQ} {x2 : Int32} (hq : t_M_lays_69_76_0 E I T Q x2) : ev E 20 0 [some (.ref 69), some (.ref 76), some (.int x2), none, none] [] I T Q := by
  unfold t_M_lays_69_76_0 at hq
  refine ev_seq 2 (ip' := 2) (loc' := [some (.ref 69), some (.ref 76), some (.int x2), some (.int 0), none]) (st' := []) (I1 := I) (T1 := T) rfl ?_
  exact s_M_lays_69_76_2 (T := T) hq
/-- FeltHarnessModel.length(I)I -/
def t_M_length_52 (E : MEnv) (I : II) (T : TT) (Q : QQ) (x1 : Int32) (x3 : Int32) (y0 : Int32) (y1 : Int32) : Prop := ev E 310 22 [some (.ref 46), some (.int x1), some (.int (y0 + y1)), some (.int (x3 + 1))] [] I T Q
theorem s_M_length_52 {E : MEnv} {I : II} {T : TT} {Q : QQ} {x1 : Int32} {x3 : Int32} {y0 : Int32} {y1 : Int32} (hq : t_M_length_52 E I T Q x1 x3 y0 y1) : ev E 310 52 [some (.ref 46), some (.int x1), none, some (.int x3)] [(.int y1), (.int y0)] I T Q := by
  unfold t_M_length_52 at hq
  refine ev_seq 4 (ip' := 22) (loc' := [some (.ref 46), some (.int x1), some (.int (y0 + y1)), some (.int (x3 + 1))]) (st' := []) (I1 := I) (T1 := T) rfl ?_
  exact hq
def t_M_length_43 (E : MEnv) (I : II) (T : TT) (Q : QQ) (x1 : Int32) (x3 : Int32) (y0 : Int32) (y1 : Int32) (y2 : Int32) : Prop := (y1 = y2 → ((¬ x3 < 0 ∧ x3.toNatClampNeg < 6) ∧ (t_M_length_52 E I T Q x1 x3 y0 (I (77 + x3.toNatClampNeg) 0)))) ∧ (¬ (y1 = y2) → (t_M_length_52 E I T Q x1 x3 y0 0))
theorem s_M_length_43 {E : MEnv} {I : II} {T : TT} {Q : QQ} {x1 : Int32} {x3 : Int32} {y0 : Int32} {y1 : Int32} {y2 : Int32} (hq : t_M_length_43 E I T Q x1 x3 y0 y1 y2) : ev E 310 43 [some (.ref 46), some (.int x1), none, some (.int x3)] [(.int y2), (.int y1), (.int y0)] I T Q := by
  unfold t_M_length_43 at hq
  refine ev_br (p := y1 = y2) (a := 44) (b := 51) (st' := [(.int y0)]) inferInstance rfl rfl (fun hb => ?_) (fun hb => ?_)
  · have hq := hq.1 hb
    refine ev_seq 3 (ip' := 47) (loc' := [some (.ref 46), some (.int x1), none, some (.int x3)]) (st' := [(.int x3), (.ref 76), (.int y0)]) (I1 := I) (T1 := T) rfl ?_
    obtain ⟨hg, hq⟩ := hq
    have hr1 := hg
    refine ev_aald rfl rfl hg (RF_76 hg.2) ?_
    refine ev_seq 1 (ip' := 49) (loc' := [some (.ref 46), some (.int x1), none, some (.int x3)]) (st' := [(.int 0), (.ref (77 + x3.toNatClampNeg)), (.int y0)]) (I1 := I) (T1 := T) rfl ?_
    refine ev_iald rfl (KF_76 hr1.2) ⟨by decide, by decide⟩ ?_
    refine ev_seq 1 (ip' := 52) (loc' := [some (.ref 46), some (.int x1), none, some (.int x3)]) (st' := [(.int (I (77 + x3.toNatClampNeg) 0)), (.int y0)]) (I1 := I) (T1 := T) rfl ?_
    exact s_M_length_52 (T := T) hq
  · have hq := hq.2 hb
    refine ev_seq 1 (ip' := 52) (loc' := [some (.ref 46), some (.int x1), none, some (.int x3)]) (st' := [(.int 0), (.int y0)]) (I1 := I) (T1 := T) rfl ?_
    exact s_M_length_52 (T := T) hq
def t_M_length_38 (E : MEnv) (I : II) (T : TT) (Q : QQ) (x1 : Int32) (x3 : Int32) (y0 : Int32) (y1 : Int32) : Prop := (x1 = 0 → (t_M_length_43 E I T Q x1 x3 y0 y1 1)) ∧ (¬ (x1 = 0) → (t_M_length_43 E I T Q x1 x3 y0 y1 0))
theorem s_M_length_38 {E : MEnv} {I : II} {T : TT} {Q : QQ} {x1 : Int32} {x3 : Int32} {y0 : Int32} {y1 : Int32} (hq : t_M_length_38 E I T Q x1 x3 y0 y1) : ev E 310 38 [some (.ref 46), some (.int x1), none, some (.int x3)] [(.int y1), (.int y0)] I T Q := by
  unfold t_M_length_38 at hq
  refine ev_seq 1 (ip' := 39) (loc' := [some (.ref 46), some (.int x1), none, some (.int x3)]) (st' := [(.int x1), (.int y1), (.int y0)]) (I1 := I) (T1 := T) rfl ?_
  refine ev_br (p := x1 = 0) (a := 40) (b := 42) (st' := [(.int y1), (.int y0)]) inferInstance rfl rfl (fun hb => ?_) (fun hb => ?_)
  · have hq := hq.1 hb
    refine ev_seq 2 (ip' := 43) (loc' := [some (.ref 46), some (.int x1), none, some (.int x3)]) (st' := [(.int 1), (.int y1), (.int y0)]) (I1 := I) (T1 := T) rfl ?_
    exact s_M_length_43 (T := T) hq
  · have hq := hq.2 hb
    refine ev_seq 1 (ip' := 43) (loc' := [some (.ref 46), some (.int x1), none, some (.int x3)]) (st' := [(.int 0), (.int y1), (.int y0)]) (I1 := I) (T1 := T) rfl ?_
    exact s_M_length_43 (T := T) hq
def t_M_length_22 (E : MEnv) (I : II) (T : TT) (Q : QQ) (x1 : Int32) (x2 : Int32) (x3 : Int32) : Prop := ((I 50 1) ≤ x3 → (Q (.inl (some (.int x2))) I T)) ∧ (¬ ((I 50 1) ≤ x3) → (((I 508 25) ≤ x3 → (t_M_length_38 E I T Q x1 x3 x2 0)) ∧ (¬ ((I 508 25) ≤ x3) → (t_M_length_38 E I T Q x1 x3 x2 1))))
theorem s_M_length_22 {E : MEnv} {I : II} {T : TT} {Q : QQ} {x1 : Int32} {x2 : Int32} {x3 : Int32} (hq : t_M_length_22 E I T Q x1 x2 x3) : ev E 310 22 [some (.ref 46), some (.int x1), some (.int x2), some (.int x3)] [] I T Q := by
  unfold t_M_length_22 at hq
  refine ev_seq 5 (ip' := 27) (loc' := [some (.ref 46), some (.int x1), some (.int x2), some (.int x3)]) (st' := [(.int (I 50 1)), (.int x3)]) (I1 := I) (T1 := T) rfl ?_
  refine ev_br (p := (I 50 1) ≤ x3) (a := 56) (b := 28) (st' := []) inferInstance rfl rfl (fun hb => ?_) (fun hb => ?_)
  · have hq := hq.1 hb
    refine ev_seq 1 (ip' := 57) (loc' := [some (.ref 46), some (.int x1), some (.int x2), some (.int x3)]) (st' := [(.int x2)]) (I1 := I) (T1 := T) rfl ?_
    exact ev_ret rfl rfl hq
  · have hq := hq.2 hb
    refine ev_seq 6 (ip' := 34) (loc' := [some (.ref 46), some (.int x1), some (.int x2), some (.int x3)]) (st' := [(.int (I 508 25)), (.int x3), (.int x2)]) (I1 := I) (T1 := T) rfl ?_
    refine ev_br (p := (I 508 25) ≤ x3) (a := 37) (b := 35) (st' := [(.int x2)]) inferInstance rfl rfl (fun hb => ?_) (fun hb => ?_)
    · have hq := hq.1 hb
      refine ev_seq 1 (ip' := 38) (loc' := [some (.ref 46), some (.int x1), some (.int x2), some (.int x3)]) (st' := [(.int 0), (.int x2)]) (I1 := I) (T1 := T) rfl ?_
      refine ev_fg [true, true, false, true] (loc' := [some (.ref 46), some (.int x1), none, some (.int x3)]) rfl ?_
      exact s_M_length_38 (T := T) hq
    · have hq := hq.2 hb
      refine ev_seq 2 (ip' := 38) (loc' := [some (.ref 46), some (.int x1), some (.int x2), some (.int x3)]) (st' := [(.int 1), (.int x2)]) (I1 := I) (T1 := T) rfl ?_
      refine ev_fg [true, true, false, true] (loc' := [some (.ref 46), some (.int x1), none, some (.int x3)]) rfl ?_
      exact s_M_length_38 (T := T) hq
def t_M_length_12 (E : MEnv) (I : II) (T : TT) (Q : QQ) (x1 : Int32) (y1 : Int32) : Prop := ev E 58 0 [some (.ref 46), some (.int y1), some (.int 1), some (.int 1)] [] I T (KI (fun v1 I1 T1 => (v1 = 0 → (t_M_length_22 E I1 T1 Q x1 0 0)) ∧ (¬ (v1 = 0) → (Q (.inl (some (.int 0))) I1 T1))) (fun x I1 T1 => Q (.inr x) I1 T1))
theorem s_M_length_12 {E : MEnv} {I : II} {T : TT} {Q : QQ} {x1 : Int32} {y1 : Int32} (hq : t_M_length_12 E I T Q x1 y1) : ev E 310 12 [some (.ref 46), some (.int x1), none, none] [(.int y1), (.ref 46)] I T Q := by
  unfold t_M_length_12 at hq
  refine ev_seq 2 (ip' := 14) (loc' := [some (.ref 46), some (.int x1), none, none]) (st' := [(.int 1), (.int 1), (.int y1), (.ref 46)]) (I1 := I) (T1 := T) rfl ?_
  refine ev_callI rfl rfl rfl (fun v1 I1 T1 hq => ?_) (fun x I1 T1 hq => ?_) hq
  · refine ev_br (p := v1 = 0) (a := 18) (b := 16) (st' := []) inferInstance rfl rfl (fun hb => ?_) (fun hb => ?_)
    · have hq := hq.1 hb
      refine ev_seq 4 (ip' := 22) (loc' := [some (.ref 46), some (.int x1), some (.int 0), some (.int 0)]) (st' := []) (I1 := I1) (T1 := T1) rfl ?_
      exact s_M_length_22 (T := T1) hq
    · have hq := hq.2 hb
      refine ev_seq 1 (ip' := 17) (loc' := [some (.ref 46), some (.int x1), none, none]) (st' := [(.int 0)]) (I1 := I1) (T1 := T1) rfl ?_
      exact ev_ret rfl rfl hq
  · exact ⟨by decide, hq⟩
def t_M_length_0 (E : MEnv) (I : II) (T : TT) (Q : QQ) (x1 : Int32) : Prop := ev E 57 0 [some (.int x1), some (.int 0), some (.int 1)] [] (m_up I 46 0 0) T (KI (fun v1 I1 T1 => (v1 = 0 → (t_M_length_12 E I1 T1 Q x1 1)) ∧ (¬ (v1 = 0) → (t_M_length_12 E I1 T1 Q x1 0))) (fun _ _ _ => False))
theorem s_M_length_0 {E : MEnv} {I : II} {T : TT} {Q : QQ} {x1 : Int32} (hq : t_M_length_0 E I T Q x1) : ev E 310 0 [some (.ref 46), some (.int x1), none, none] [] I T Q := by
  unfold t_M_length_0 at hq
  refine ev_seq 7 (ip' := 7) (loc' := [some (.ref 46), some (.int x1), none, none]) (st' := [(.int 1), (.int 0), (.int x1), (.ref 46)]) (I1 := m_up I 46 0 0) (T1 := T) rfl ?_
  refine ev_callI rfl rfl rfl (fun v1 I1 T1 hq => ?_) (fun x I1 T1 hq => ?_) hq
  · refine ev_br (p := v1 = 0) (a := 9) (b := 11) (st' := [(.ref 46)]) inferInstance rfl rfl (fun hb => ?_) (fun hb => ?_)
    · have hq := hq.1 hb
      refine ev_seq 2 (ip' := 12) (loc' := [some (.ref 46), some (.int x1), none, none]) (st' := [(.int 1), (.ref 46)]) (I1 := I1) (T1 := T1) rfl ?_
      exact s_M_length_12 (T := T1) hq
    · have hq := hq.2 hb
      refine ev_seq 1 (ip' := 12) (loc' := [some (.ref 46), some (.int x1), none, none]) (st' := [(.int 0), (.ref 46)]) (I1 := I1) (T1 := T1) rfl ?_
      exact s_M_length_12 (T := T1) hq
  · exact hq.elim
/-- FeltHarnessModel.less(II)I -/
def t_M_less_6 (E : MEnv) (I : II) (T : TT) (Q : QQ) (y0 : Int32) : Prop := Q (.inl (some (.int y0))) I T
theorem s_M_less_6 {E : MEnv} {I : II} {T : TT} {Q : QQ} {y0 : Int32} (hq : t_M_less_6 E I T Q y0) : ev E 162 6 [none, none] [(.int y0)] I T Q := by
  unfold t_M_less_6 at hq
  exact ev_ret rfl rfl hq
def t_M_less_0 (E : MEnv) (I : II) (T : TT) (Q : QQ) (x0 : Int32) (x1 : Int32) : Prop := (x1 ≤ x0 → (t_M_less_6 E I T Q x1)) ∧ (¬ (x1 ≤ x0) → (t_M_less_6 E I T Q x0))
theorem s_M_less_0 {E : MEnv} {I : II} {T : TT} {Q : QQ} {x0 : Int32} {x1 : Int32} (hq : t_M_less_0 E I T Q x0 x1) : ev E 162 0 [some (.int x0), some (.int x1)] [] I T Q := by
  unfold t_M_less_0 at hq
  refine ev_seq 2 (ip' := 2) (loc' := [some (.int x0), some (.int x1)]) (st' := [(.int x1), (.int x0)]) (I1 := I) (T1 := T) rfl ?_
  refine ev_br (p := x1 ≤ x0) (a := 5) (b := 3) (st' := []) inferInstance rfl rfl (fun hb => ?_) (fun hb => ?_)
  · have hq := hq.1 hb
    refine ev_seq 1 (ip' := 6) (loc' := [some (.int x0), some (.int x1)]) (st' := [(.int x1)]) (I1 := I) (T1 := T) rfl ?_
    refine ev_fg [false, false] (loc' := [none, none]) rfl ?_
    exact s_M_less_6 (T := T) hq
  · have hq := hq.2 hb
    refine ev_seq 2 (ip' := 6) (loc' := [some (.int x0), some (.int x1)]) (st' := [(.int x0)]) (I1 := I) (T1 := T) rfl ?_
    refine ev_fg [false, false] (loc' := [none, none]) rfl ?_
    exact s_M_less_6 (T := T) hq
/-- FeltHarnessModel.look(I)I -/
def t_M_look_57 (E : MEnv) (I : II) (T : TT) (Q : QQ) (y0 : Int32) : Prop := Q (.inl (some (.int y0))) I T
theorem s_M_look_57 {E : MEnv} {I : II} {T : TT} {Q : QQ} {y0 : Int32} (hq : t_M_look_57 E I T Q y0) : ev E 259 57 [none, none, none, none, none, none] [(.int y0)] I T Q := by
  unfold t_M_look_57 at hq
  exact ev_ret rfl rfl hq
def t_M_look_50 (E : MEnv) (I : II) (T : TT) (Q : QQ) (x1 : Int32) (x2 : Int32) (x3 : Int32) (x4 : Int32) : Prop := ev E 259 24 [some (.ref 46), some (.int x1), some (.int x2), some (.int x3), some (.int (x4 + 1)), none] [] I T Q
theorem s_M_look_50 {E : MEnv} {I : II} {T : TT} {Q : QQ} {x1 : Int32} {x2 : Int32} {x3 : Int32} {x4 : Int32} (hq : t_M_look_50 E I T Q x1 x2 x3 x4) : ev E 259 50 [some (.ref 46), some (.int x1), some (.int x2), some (.int x3), some (.int x4), none] [] I T Q := by
  unfold t_M_look_50 at hq
  refine ev_seq 2 (ip' := 24) (loc' := [some (.ref 46), some (.int x1), some (.int x2), some (.int x3), some (.int (x4 + 1)), none]) (st' := []) (I1 := I) (T1 := T) rfl ?_
  exact hq
def t_M_look_46 (E : MEnv) (I : II) (T : TT) (Q : QQ) (x1 : Int32) (x4 : Int32) (x5 : Int32) : Prop := t_M_look_50 E I T Q x1 x4 x5 x4
theorem s_M_look_46 {E : MEnv} {I : II} {T : TT} {Q : QQ} {x1 : Int32} {x4 : Int32} {x5 : Int32} (hq : t_M_look_46 E I T Q x1 x4 x5) : ev E 259 46 [some (.ref 46), some (.int x1), none, none, some (.int x4), some (.int x5)] [] I T Q := by
  unfold t_M_look_46 at hq
  refine ev_seq 4 (ip' := 50) (loc' := [some (.ref 46), some (.int x1), some (.int x4), some (.int x5), some (.int x4), some (.int x5)]) (st' := []) (I1 := I) (T1 := T) rfl ?_
  refine ev_fg [true, true, true, true, true, false] (loc' := [some (.ref 46), some (.int x1), some (.int x4), some (.int x5), some (.int x4), none]) rfl ?_
  exact s_M_look_50 (T := T) hq
def t_M_look_24 (E : MEnv) (I : II) (T : TT) (Q : QQ) (x1 : Int32) (x2 : Int32) (x3 : Int32) (x4 : Int32) : Prop := ((I 50 0) ≤ x4 → ((x1 = 0 → (t_M_look_57 E I T Q x2)) ∧ (¬ (x1 = 0) → (t_M_look_57 E I T Q x3)))) ∧ (¬ ((I 50 0) ≤ x4) → (ev E 260 0 [some (.ref 46), some (.int x4), none] [] I T (KI (fun v1 I1 T1 => (v1 = 0 → (ev E 261 0 [some (.ref 46), some (.int x4), none, none, none, none] [] I1 T1 (KI (fun v2 I2 T2 => (x2 = (-1) → (t_M_look_46 E I2 T2 Q x1 x4 v2)) ∧ (¬ (x2 = (-1)) → ((v2 < x3 → (t_M_look_46 E I2 T2 Q x1 x4 v2)) ∧ (¬ (v2 < x3) → (t_M_look_50 E I2 T2 Q x1 x2 x3 x4))))) (fun x I1 T1 => Q (.inr x) I1 T1)))) ∧ (¬ (v1 = 0) → (t_M_look_50 E I1 T1 Q x1 x2 x3 x4))) (fun x I1 T1 => Q (.inr x) I1 T1))))
theorem s_M_look_24 {E : MEnv} {I : II} {T : TT} {Q : QQ} {x1 : Int32} {x2 : Int32} {x3 : Int32} {x4 : Int32} (hq : t_M_look_24 E I T Q x1 x2 x3 x4) : ev E 259 24 [some (.ref 46), some (.int x1), some (.int x2), some (.int x3), some (.int x4), none] [] I T Q := by
  unfold t_M_look_24 at hq
  refine ev_seq 5 (ip' := 29) (loc' := [some (.ref 46), some (.int x1), some (.int x2), some (.int x3), some (.int x4), none]) (st' := [(.int (I 50 0)), (.int x4)]) (I1 := I) (T1 := T) rfl ?_
  refine ev_br (p := (I 50 0) ≤ x4) (a := 52) (b := 30) (st' := []) inferInstance rfl rfl (fun hb => ?_) (fun hb => ?_)
  · have hq := hq.1 hb
    refine ev_seq 1 (ip' := 53) (loc' := [some (.ref 46), some (.int x1), some (.int x2), some (.int x3), some (.int x4), none]) (st' := [(.int x1)]) (I1 := I) (T1 := T) rfl ?_
    refine ev_br (p := x1 = 0) (a := 54) (b := 56) (st' := []) inferInstance rfl rfl (fun hb => ?_) (fun hb => ?_)
    · have hq := hq.1 hb
      refine ev_seq 2 (ip' := 57) (loc' := [some (.ref 46), some (.int x1), some (.int x2), some (.int x3), some (.int x4), none]) (st' := [(.int x2)]) (I1 := I) (T1 := T) rfl ?_
      refine ev_fg [false, false, false, false, false, true] (loc' := [none, none, none, none, none, none]) rfl ?_
      exact s_M_look_57 (T := T) hq
    · have hq := hq.2 hb
      refine ev_seq 1 (ip' := 57) (loc' := [some (.ref 46), some (.int x1), some (.int x2), some (.int x3), some (.int x4), none]) (st' := [(.int x3)]) (I1 := I) (T1 := T) rfl ?_
      refine ev_fg [false, false, false, false, false, true] (loc' := [none, none, none, none, none, none]) rfl ?_
      exact s_M_look_57 (T := T) hq
  · have hq := hq.2 hb
    refine ev_seq 2 (ip' := 32) (loc' := [some (.ref 46), some (.int x1), some (.int x2), some (.int x3), some (.int x4), none]) (st' := [(.int x4), (.ref 46)]) (I1 := I) (T1 := T) rfl ?_
    refine ev_callI rfl rfl rfl (fun v1 I1 T1 hq => ?_) (fun x I1 T1 hq => ?_) hq
    · refine ev_br (p := v1 = 0) (a := 35) (b := 34) (st' := []) inferInstance rfl rfl (fun hb => ?_) (fun hb => ?_)
      · have hq := hq.1 hb
        refine ev_seq 2 (ip' := 37) (loc' := [some (.ref 46), some (.int x1), some (.int x2), some (.int x3), some (.int x4), none]) (st' := [(.int x4), (.ref 46)]) (I1 := I1) (T1 := T1) rfl ?_
        refine ev_callI rfl rfl rfl (fun v2 I2 T2 hq => ?_) (fun x I1 T1 hq => ?_) hq
        · refine ev_seq 3 (ip' := 41) (loc' := [some (.ref 46), some (.int x1), some (.int x2), some (.int x3), some (.int x4), some (.int v2)]) (st' := [(.int (-1)), (.int x2)]) (I1 := I2) (T1 := T2) rfl ?_
          refine ev_br (p := x2 = (-1)) (a := 46) (b := 42) (st' := []) inferInstance rfl rfl (fun hb => ?_) (fun hb => ?_)
          · have hq := hq.1 hb
            refine ev_fg [true, true, false, false, true, true] (loc' := [some (.ref 46), some (.int x1), none, none, some (.int x4), some (.int v2)]) rfl ?_
            exact s_M_look_46 (T := T2) hq
          · have hq := hq.2 hb
            refine ev_seq 2 (ip' := 44) (loc' := [some (.ref 46), some (.int x1), some (.int x2), some (.int x3), some (.int x4), some (.int v2)]) (st' := [(.int x3), (.int v2)]) (I1 := I2) (T1 := T2) rfl ?_
            refine ev_br (p := v2 < x3) (a := 46) (b := 45) (st' := []) inferInstance rfl rfl (fun hb => ?_) (fun hb => ?_)
            · have hq := hq.1 hb
              refine ev_fg [true, true, false, false, true, true] (loc' := [some (.ref 46), some (.int x1), none, none, some (.int x4), some (.int v2)]) rfl ?_
              exact s_M_look_46 (T := T2) hq
            · have hq := hq.2 hb
              refine ev_seq 1 (ip' := 50) (loc' := [some (.ref 46), some (.int x1), some (.int x2), some (.int x3), some (.int x4), some (.int v2)]) (st' := []) (I1 := I2) (T1 := T2) rfl ?_
              refine ev_fg [true, true, true, true, true, false] (loc' := [some (.ref 46), some (.int x1), some (.int x2), some (.int x3), some (.int x4), none]) rfl ?_
              exact s_M_look_50 (T := T2) hq
        · exact ⟨by decide, hq⟩
      · have hq := hq.2 hb
        refine ev_seq 1 (ip' := 50) (loc' := [some (.ref 46), some (.int x1), some (.int x2), some (.int x3), some (.int x4), none]) (st' := []) (I1 := I1) (T1 := T1) rfl ?_
        exact s_M_look_50 (T := T1) hq
    · exact ⟨by decide, hq⟩
def t_M_look_12 (E : MEnv) (I : II) (T : TT) (Q : QQ) (x1 : Int32) (y1 : Int32) : Prop := ev E 58 0 [some (.ref 46), some (.int y1), some (.int 1), some (.int 1)] [] I T (KI (fun v1 I1 T1 => (v1 = 0 → (t_M_look_24 E I1 T1 Q x1 (-1) (-1) 0)) ∧ (¬ (v1 = 0) → (Q (.inl (some (.int 0))) I1 T1))) (fun x I1 T1 => Q (.inr x) I1 T1))
theorem s_M_look_12 {E : MEnv} {I : II} {T : TT} {Q : QQ} {x1 : Int32} {y1 : Int32} (hq : t_M_look_12 E I T Q x1 y1) : ev E 259 12 [some (.ref 46), some (.int x1), none, none, none, none] [(.int y1), (.ref 46)] I T Q := by
  unfold t_M_look_12 at hq
  refine ev_seq 2 (ip' := 14) (loc' := [some (.ref 46), some (.int x1), none, none, none, none]) (st' := [(.int 1), (.int 1), (.int y1), (.ref 46)]) (I1 := I) (T1 := T) rfl ?_
  refine ev_callI rfl rfl rfl (fun v1 I1 T1 hq => ?_) (fun x I1 T1 hq => ?_) hq
  · refine ev_br (p := v1 = 0) (a := 18) (b := 16) (st' := []) inferInstance rfl rfl (fun hb => ?_) (fun hb => ?_)
    · have hq := hq.1 hb
      refine ev_seq 6 (ip' := 24) (loc' := [some (.ref 46), some (.int x1), some (.int (-1)), some (.int (-1)), some (.int 0), none]) (st' := []) (I1 := I1) (T1 := T1) rfl ?_
      exact s_M_look_24 (T := T1) hq
    · have hq := hq.2 hb
      refine ev_seq 1 (ip' := 17) (loc' := [some (.ref 46), some (.int x1), none, none, none, none]) (st' := [(.int 0)]) (I1 := I1) (T1 := T1) rfl ?_
      exact ev_ret rfl rfl hq
  · exact ⟨by decide, hq⟩
def t_M_look_0 (E : MEnv) (I : II) (T : TT) (Q : QQ) (x1 : Int32) : Prop := ev E 57 0 [some (.int x1), some (.int 0), some (.int 1)] [] (m_up I 46 0 0) T (KI (fun v1 I1 T1 => (v1 = 0 → (t_M_look_12 E I1 T1 Q x1 1)) ∧ (¬ (v1 = 0) → (t_M_look_12 E I1 T1 Q x1 0))) (fun _ _ _ => False))
theorem s_M_look_0 {E : MEnv} {I : II} {T : TT} {Q : QQ} {x1 : Int32} (hq : t_M_look_0 E I T Q x1) : ev E 259 0 [some (.ref 46), some (.int x1), none, none, none, none] [] I T Q := by
  unfold t_M_look_0 at hq
  refine ev_seq 7 (ip' := 7) (loc' := [some (.ref 46), some (.int x1), none, none, none, none]) (st' := [(.int 1), (.int 0), (.int x1), (.ref 46)]) (I1 := m_up I 46 0 0) (T1 := T) rfl ?_
  refine ev_callI rfl rfl rfl (fun v1 I1 T1 hq => ?_) (fun x I1 T1 hq => ?_) hq
  · refine ev_br (p := v1 = 0) (a := 9) (b := 11) (st' := [(.ref 46)]) inferInstance rfl rfl (fun hb => ?_) (fun hb => ?_)
    · have hq := hq.1 hb
      refine ev_seq 2 (ip' := 12) (loc' := [some (.ref 46), some (.int x1), none, none, none, none]) (st' := [(.int 1), (.ref 46)]) (I1 := I1) (T1 := T1) rfl ?_
      exact s_M_look_12 (T := T1) hq
    · have hq := hq.2 hb
      refine ev_seq 1 (ip' := 12) (loc' := [some (.ref 46), some (.int x1), none, none, none, none]) (st' := [(.int 0), (.ref 46)]) (I1 := I1) (T1 := T1) rfl ?_
      exact s_M_look_12 (T := T1) hq
  · exact hq.elim
/-- FeltHarnessModel.loosest(I)I -/
def t_M_loosest_71 (E : MEnv) (I : II) (T : TT) (Q : QQ) (y0 : Int32) : Prop := Q (.inl (some (.int y0))) I T
theorem s_M_loosest_71 {E : MEnv} {I : II} {T : TT} {Q : QQ} {y0 : Int32} (hq : t_M_loosest_71 E I T Q y0) : ev E 285 71 [none, none, none, none] [(.int y0)] I T Q := by
  unfold t_M_loosest_71 at hq
  exact ev_ret rfl rfl hq
def t_M_loosest_63 (E : MEnv) (I : II) (T : TT) (Q : QQ) (x2 : Int32) : Prop := t_M_loosest_71 E I T Q x2
theorem s_M_loosest_63 {E : MEnv} {I : II} {T : TT} {Q : QQ} {x2 : Int32} (hq : t_M_loosest_63 E I T Q x2) : ev E 285 63 [none, none, some (.int x2), none] [] I T Q := by
  unfold t_M_loosest_63 at hq
  refine ev_seq 2 (ip' := 71) (loc' := [none, none, some (.int x2), none]) (st' := [(.int x2)]) (I1 := I) (T1 := T) rfl ?_
  refine ev_fg [true, true, false, true] (loc' := [none, none, none, none]) rfl ?_
  exact s_M_loosest_71 (T := T) hq
def t_M_loosest_55 (E : MEnv) (I : II) (T : TT) (Q : QQ) (x1 : Int32) (x3 : Int32) (y0 : Int32) : Prop := ev E 285 22 [some (.ref 46), some (.int x1), some (.int y0), some (.int (x3 + 1))] [] I T Q
theorem s_M_loosest_55 {E : MEnv} {I : II} {T : TT} {Q : QQ} {x1 : Int32} {x3 : Int32} {y0 : Int32} (hq : t_M_loosest_55 E I T Q x1 x3 y0) : ev E 285 55 [some (.ref 46), some (.int x1), none, some (.int x3)] [(.int y0)] I T Q := by
  unfold t_M_loosest_55 at hq
  refine ev_seq 3 (ip' := 22) (loc' := [some (.ref 46), some (.int x1), some (.int y0), some (.int (x3 + 1))]) (st' := []) (I1 := I) (T1 := T) rfl ?_
  exact hq
def t_M_loosest_54 (E : MEnv) (I : II) (T : TT) (Q : QQ) (x1 : Int32) (x2 : Int32) (x3 : Int32) : Prop := t_M_loosest_55 E I T Q x1 x3 x2
theorem s_M_loosest_54 {E : MEnv} {I : II} {T : TT} {Q : QQ} {x1 : Int32} {x2 : Int32} {x3 : Int32} (hq : t_M_loosest_54 E I T Q x1 x2 x3) : ev E 285 54 [some (.ref 46), some (.int x1), some (.int x2), some (.int x3)] [] I T Q := by
  unfold t_M_loosest_54 at hq
  refine ev_seq 1 (ip' := 55) (loc' := [some (.ref 46), some (.int x1), some (.int x2), some (.int x3)]) (st' := [(.int x2)]) (I1 := I) (T1 := T) rfl ?_
  refine ev_fg [true, true, false, true] (loc' := [some (.ref 46), some (.int x1), none, some (.int x3)]) rfl ?_
  exact s_M_loosest_55 (T := T) hq
def t_M_loosest_52 (E : MEnv) (I : II) (T : TT) (Q : QQ) (x1 : Int32) (x3 : Int32) : Prop := t_M_loosest_55 E I T Q x1 x3 x3
theorem s_M_loosest_52 {E : MEnv} {I : II} {T : TT} {Q : QQ} {x1 : Int32} {x3 : Int32} (hq : t_M_loosest_52 E I T Q x1 x3) : ev E 285 52 [some (.ref 46), some (.int x1), none, some (.int x3)] [] I T Q := by
  unfold t_M_loosest_52 at hq
  refine ev_seq 2 (ip' := 55) (loc' := [some (.ref 46), some (.int x1), none, some (.int x3)]) (st' := [(.int x3)]) (I1 := I) (T1 := T) rfl ?_
  exact s_M_loosest_55 (T := T) hq
def t_M_loosest_22 (E : MEnv) (I : II) (T : TT) (Q : QQ) (x1 : Int32) (x2 : Int32) (x3 : Int32) : Prop := ((I 50 0) ≤ x3 → ((x1 = 0 → (t_M_loosest_63 E I T Q x2)) ∧ (¬ (x1 = 0) → ((x2 = (-1) → (t_M_loosest_63 E I T Q x2)) ∧ (¬ (x2 = (-1)) → ((¬ (8 + x2) < 0 ∧ (8 + x2).toNatClampNeg < 29) ∧ (t_M_loosest_71 E I T Q (I 508 (8 + x2).toNatClampNeg)))))))) ∧ (¬ ((I 50 0) ≤ x3) → ((¬ (0 + x3) < 0 ∧ (0 + x3).toNatClampNeg < 29) ∧ (((I 508 (0 + x3).toNatClampNeg) = (-1) → (t_M_loosest_54 E I T Q x1 x2 x3)) ∧ (¬ ((I 508 (0 + x3).toNatClampNeg) = (-1)) → ((x2 = (-1) → (t_M_loosest_52 E I T Q x1 x3)) ∧ (¬ (x2 = (-1)) → ((¬ (8 + x3) < 0 ∧ (8 + x3).toNatClampNeg < 29) ∧ ((¬ (8 + x2) < 0 ∧ (8 + x2).toNatClampNeg < 29) ∧ (((I 508 (8 + x2).toNatClampNeg) ≤ (I 508 (8 + x3).toNatClampNeg) → (t_M_loosest_54 E I T Q x1 x2 x3)) ∧ (¬ ((I 508 (8 + x2).toNatClampNeg) ≤ (I 508 (8 + x3).toNatClampNeg)) → (t_M_loosest_52 E I T Q x1 x3)))))))))))
theorem s_M_loosest_22 {E : MEnv} {I : II} {T : TT} {Q : QQ} {x1 : Int32} {x2 : Int32} {x3 : Int32} (hq : t_M_loosest_22 E I T Q x1 x2 x3) : ev E 285 22 [some (.ref 46), some (.int x1), some (.int x2), some (.int x3)] [] I T Q := by
  unfold t_M_loosest_22 at hq
  refine ev_seq 5 (ip' := 27) (loc' := [some (.ref 46), some (.int x1), some (.int x2), some (.int x3)]) (st' := [(.int (I 50 0)), (.int x3)]) (I1 := I) (T1 := T) rfl ?_
  refine ev_br (p := (I 50 0) ≤ x3) (a := 58) (b := 28) (st' := []) inferInstance rfl rfl (fun hb => ?_) (fun hb => ?_)
  · have hq := hq.1 hb
    refine ev_seq 1 (ip' := 59) (loc' := [some (.ref 46), some (.int x1), some (.int x2), some (.int x3)]) (st' := [(.int x1)]) (I1 := I) (T1 := T) rfl ?_
    refine ev_br (p := x1 = 0) (a := 63) (b := 60) (st' := []) inferInstance rfl rfl (fun hb => ?_) (fun hb => ?_)
    · have hq := hq.1 hb
      refine ev_fg [false, false, true, false] (loc' := [none, none, some (.int x2), none]) rfl ?_
      exact s_M_loosest_63 (T := T) hq
    · have hq := hq.2 hb
      refine ev_seq 2 (ip' := 62) (loc' := [some (.ref 46), some (.int x1), some (.int x2), some (.int x3)]) (st' := [(.int (-1)), (.int x2)]) (I1 := I) (T1 := T) rfl ?_
      refine ev_br (p := x2 = (-1)) (a := 63) (b := 65) (st' := []) inferInstance rfl rfl (fun hb => ?_) (fun hb => ?_)
      · have hq := hq.1 hb
        refine ev_fg [false, false, true, false] (loc' := [none, none, some (.int x2), none]) rfl ?_
        exact s_M_loosest_63 (T := T) hq
      · have hq := hq.2 hb
        refine ev_seq 5 (ip' := 70) (loc' := [some (.ref 46), some (.int x1), some (.int x2), some (.int x3)]) (st' := [(.int (8 + x2)), (.ref 508)]) (I1 := I) (T1 := T) rfl ?_
        obtain ⟨hg, hq⟩ := hq
        refine ev_iald rfl rfl hg ?_
        refine ev_fg [false, false, false, false] (loc' := [none, none, none, none]) rfl ?_
        exact s_M_loosest_71 (T := T) hq
  · have hq := hq.2 hb
    refine ev_seq 5 (ip' := 33) (loc' := [some (.ref 46), some (.int x1), some (.int x2), some (.int x3)]) (st' := [(.int (0 + x3)), (.ref 508)]) (I1 := I) (T1 := T) rfl ?_
    obtain ⟨hg, hq⟩ := hq
    refine ev_iald rfl rfl hg ?_
    refine ev_seq 1 (ip' := 35) (loc' := [some (.ref 46), some (.int x1), some (.int x2), some (.int x3)]) (st' := [(.int (-1)), (.int (I 508 (0 + x3).toNatClampNeg))]) (I1 := I) (T1 := T) rfl ?_
    refine ev_br (p := (I 508 (0 + x3).toNatClampNeg) = (-1)) (a := 54) (b := 36) (st' := []) inferInstance rfl rfl (fun hb => ?_) (fun hb => ?_)
    · have hq := hq.1 hb
      exact s_M_loosest_54 (T := T) hq
    · have hq := hq.2 hb
      refine ev_seq 2 (ip' := 38) (loc' := [some (.ref 46), some (.int x1), some (.int x2), some (.int x3)]) (st' := [(.int (-1)), (.int x2)]) (I1 := I) (T1 := T) rfl ?_
      refine ev_br (p := x2 = (-1)) (a := 52) (b := 39) (st' := []) inferInstance rfl rfl (fun hb => ?_) (fun hb => ?_)
      · have hq := hq.1 hb
        refine ev_fg [true, true, false, true] (loc' := [some (.ref 46), some (.int x1), none, some (.int x3)]) rfl ?_
        exact s_M_loosest_52 (T := T) hq
      · have hq := hq.2 hb
        refine ev_seq 5 (ip' := 44) (loc' := [some (.ref 46), some (.int x1), some (.int x2), some (.int x3)]) (st' := [(.int (8 + x3)), (.ref 508)]) (I1 := I) (T1 := T) rfl ?_
        obtain ⟨hg, hq⟩ := hq
        refine ev_iald rfl rfl hg ?_
        refine ev_seq 5 (ip' := 50) (loc' := [some (.ref 46), some (.int x1), some (.int x2), some (.int x3)]) (st' := [(.int (8 + x2)), (.ref 508), (.int (I 508 (8 + x3).toNatClampNeg))]) (I1 := I) (T1 := T) rfl ?_
        obtain ⟨hg, hq⟩ := hq
        refine ev_iald rfl rfl hg ?_
        refine ev_br (p := (I 508 (8 + x2).toNatClampNeg) ≤ (I 508 (8 + x3).toNatClampNeg)) (a := 54) (b := 52) (st' := []) inferInstance rfl rfl (fun hb => ?_) (fun hb => ?_)
        · have hq := hq.1 hb
          exact s_M_loosest_54 (T := T) hq
        · have hq := hq.2 hb
          refine ev_fg [true, true, false, true] (loc' := [some (.ref 46), some (.int x1), none, some (.int x3)]) rfl ?_
          exact s_M_loosest_52 (T := T) hq
def t_M_loosest_12 (E : MEnv) (I : II) (T : TT) (Q : QQ) (x1 : Int32) (y1 : Int32) : Prop := ev E 58 0 [some (.ref 46), some (.int y1), some (.int 1), some (.int 1)] [] I T (KI (fun v1 I1 T1 => (v1 = 0 → (t_M_loosest_22 E I1 T1 Q x1 (-1) 0)) ∧ (¬ (v1 = 0) → (Q (.inl (some (.int 0))) I1 T1))) (fun x I1 T1 => Q (.inr x) I1 T1))
theorem s_M_loosest_12 {E : MEnv} {I : II} {T : TT} {Q : QQ} {x1 : Int32} {y1 : Int32} (hq : t_M_loosest_12 E I T Q x1 y1) : ev E 285 12 [some (.ref 46), some (.int x1), none, none] [(.int y1), (.ref 46)] I T Q := by
  unfold t_M_loosest_12 at hq
  refine ev_seq 2 (ip' := 14) (loc' := [some (.ref 46), some (.int x1), none, none]) (st' := [(.int 1), (.int 1), (.int y1), (.ref 46)]) (I1 := I) (T1 := T) rfl ?_
  refine ev_callI rfl rfl rfl (fun v1 I1 T1 hq => ?_) (fun x I1 T1 hq => ?_) hq
  · refine ev_br (p := v1 = 0) (a := 18) (b := 16) (st' := []) inferInstance rfl rfl (fun hb => ?_) (fun hb => ?_)
    · have hq := hq.1 hb
      refine ev_seq 4 (ip' := 22) (loc' := [some (.ref 46), some (.int x1), some (.int (-1)), some (.int 0)]) (st' := []) (I1 := I1) (T1 := T1) rfl ?_
      exact s_M_loosest_22 (T := T1) hq
    · have hq := hq.2 hb
      refine ev_seq 1 (ip' := 17) (loc' := [some (.ref 46), some (.int x1), none, none]) (st' := [(.int 0)]) (I1 := I1) (T1 := T1) rfl ?_
      exact ev_ret rfl rfl hq
  · exact ⟨by decide, hq⟩
def t_M_loosest_0 (E : MEnv) (I : II) (T : TT) (Q : QQ) (x1 : Int32) : Prop := ev E 57 0 [some (.int x1), some (.int 0), some (.int 1)] [] (m_up I 46 0 0) T (KI (fun v1 I1 T1 => (v1 = 0 → (t_M_loosest_12 E I1 T1 Q x1 1)) ∧ (¬ (v1 = 0) → (t_M_loosest_12 E I1 T1 Q x1 0))) (fun _ _ _ => False))
theorem s_M_loosest_0 {E : MEnv} {I : II} {T : TT} {Q : QQ} {x1 : Int32} (hq : t_M_loosest_0 E I T Q x1) : ev E 285 0 [some (.ref 46), some (.int x1), none, none] [] I T Q := by
  unfold t_M_loosest_0 at hq
  refine ev_seq 7 (ip' := 7) (loc' := [some (.ref 46), some (.int x1), none, none]) (st' := [(.int 1), (.int 0), (.int x1), (.ref 46)]) (I1 := m_up I 46 0 0) (T1 := T) rfl ?_
  refine ev_callI rfl rfl rfl (fun v1 I1 T1 hq => ?_) (fun x I1 T1 hq => ?_) hq
  · refine ev_br (p := v1 = 0) (a := 9) (b := 11) (st' := [(.ref 46)]) inferInstance rfl rfl (fun hb => ?_) (fun hb => ?_)
    · have hq := hq.1 hb
      refine ev_seq 2 (ip' := 12) (loc' := [some (.ref 46), some (.int x1), none, none]) (st' := [(.int 1), (.ref 46)]) (I1 := I1) (T1 := T1) rfl ?_
      exact s_M_loosest_12 (T := T1) hq
    · have hq := hq.2 hb
      refine ev_seq 1 (ip' := 12) (loc' := [some (.ref 46), some (.int x1), none, none]) (st' := [(.int 0), (.ref 46)]) (I1 := I1) (T1 := T1) rfl ?_
      exact s_M_loosest_12 (T := T1) hq
  · exact hq.elim
/-- FeltHarnessModel.lost()I -/
def t_M_lost_35 (E : MEnv) (I : II) (T : TT) (Q : QQ) (x2 : Int32) (y0 : Int32) (y1 : Int32) : Prop := ev E 295 7 [some (.ref 46), some (.int (y0 ||| y1)), some (.int (x2 + 1))] [] I T Q
theorem s_M_lost_35 {E : MEnv} {I : II} {T : TT} {Q : QQ} {x2 : Int32} {y0 : Int32} {y1 : Int32} (hq : t_M_lost_35 E I T Q x2 y0 y1) : ev E 295 35 [some (.ref 46), none, some (.int x2)] [(.int y1), (.int y0)] I T Q := by
  unfold t_M_lost_35 at hq
  refine ev_seq 4 (ip' := 7) (loc' := [some (.ref 46), some (.int (y0 ||| y1)), some (.int (x2 + 1))]) (st' := []) (I1 := I) (T1 := T) rfl ?_
  exact hq
def t_M_lost_34 (E : MEnv) (I : II) (T : TT) (Q : QQ) (x2 : Int32) (y0 : Int32) : Prop := t_M_lost_35 E I T Q x2 y0 0
theorem s_M_lost_34 {E : MEnv} {I : II} {T : TT} {Q : QQ} {x2 : Int32} {y0 : Int32} (hq : t_M_lost_34 E I T Q x2 y0) : ev E 295 34 [some (.ref 46), none, some (.int x2)] [(.int y0)] I T Q := by
  unfold t_M_lost_34 at hq
  refine ev_seq 1 (ip' := 35) (loc' := [some (.ref 46), none, some (.int x2)]) (st' := [(.int 0), (.int y0)]) (I1 := I) (T1 := T) rfl ?_
  exact s_M_lost_35 (T := T) hq
def t_M_lost_7 (E : MEnv) (I : II) (T : TT) (Q : QQ) (x1 : Int32) (x2 : Int32) : Prop := ((I 50 0) ≤ x2 → (Q (.inl (some (.int x1))) I T)) ∧ (¬ ((I 50 0) ≤ x2) → ((¬ (0 + x2) < 0 ∧ (0 + x2).toNatClampNeg < 29) ∧ (((I 508 (0 + x2).toNatClampNeg) = (-1) → (t_M_lost_34 E I T Q x2 x1)) ∧ (¬ ((I 508 (0 + x2).toNatClampNeg) = (-1)) → ((¬ (8 + x2) < 0 ∧ (8 + x2).toNatClampNeg < 29) ∧ ((3 < (I 508 (8 + x2).toNatClampNeg) → (t_M_lost_34 E I T Q x2 x1)) ∧ (¬ (3 < (I 508 (8 + x2).toNatClampNeg)) → (t_M_lost_35 E I T Q x2 x1 ((1 : Int32) <<< (x2 &&& 31))))))))))
theorem s_M_lost_7 {E : MEnv} {I : II} {T : TT} {Q : QQ} {x1 : Int32} {x2 : Int32} (hq : t_M_lost_7 E I T Q x1 x2) : ev E 295 7 [some (.ref 46), some (.int x1), some (.int x2)] [] I T Q := by
  unfold t_M_lost_7 at hq
  refine ev_seq 5 (ip' := 12) (loc' := [some (.ref 46), some (.int x1), some (.int x2)]) (st' := [(.int (I 50 0)), (.int x2)]) (I1 := I) (T1 := T) rfl ?_
  refine ev_br (p := (I 50 0) ≤ x2) (a := 39) (b := 13) (st' := []) inferInstance rfl rfl (fun hb => ?_) (fun hb => ?_)
  · have hq := hq.1 hb
    refine ev_seq 1 (ip' := 40) (loc' := [some (.ref 46), some (.int x1), some (.int x2)]) (st' := [(.int x1)]) (I1 := I) (T1 := T) rfl ?_
    exact ev_ret rfl rfl hq
  · have hq := hq.2 hb
    refine ev_seq 6 (ip' := 19) (loc' := [some (.ref 46), some (.int x1), some (.int x2)]) (st' := [(.int (0 + x2)), (.ref 508), (.int x1)]) (I1 := I) (T1 := T) rfl ?_
    obtain ⟨hg, hq⟩ := hq
    refine ev_iald rfl rfl hg ?_
    refine ev_seq 1 (ip' := 21) (loc' := [some (.ref 46), some (.int x1), some (.int x2)]) (st' := [(.int (-1)), (.int (I 508 (0 + x2).toNatClampNeg)), (.int x1)]) (I1 := I) (T1 := T) rfl ?_
    refine ev_br (p := (I 508 (0 + x2).toNatClampNeg) = (-1)) (a := 34) (b := 22) (st' := [(.int x1)]) inferInstance rfl rfl (fun hb => ?_) (fun hb => ?_)
    · have hq := hq.1 hb
      refine ev_fg [true, false, true] (loc' := [some (.ref 46), none, some (.int x2)]) rfl ?_
      exact s_M_lost_34 (T := T) hq
    · have hq := hq.2 hb
      refine ev_seq 5 (ip' := 27) (loc' := [some (.ref 46), some (.int x1), some (.int x2)]) (st' := [(.int (8 + x2)), (.ref 508), (.int x1)]) (I1 := I) (T1 := T) rfl ?_
      obtain ⟨hg, hq⟩ := hq
      refine ev_iald rfl rfl hg ?_
      refine ev_seq 1 (ip' := 29) (loc' := [some (.ref 46), some (.int x1), some (.int x2)]) (st' := [(.int 3), (.int (I 508 (8 + x2).toNatClampNeg)), (.int x1)]) (I1 := I) (T1 := T) rfl ?_
      refine ev_br (p := 3 < (I 508 (8 + x2).toNatClampNeg)) (a := 34) (b := 30) (st' := [(.int x1)]) inferInstance rfl rfl (fun hb => ?_) (fun hb => ?_)
      · have hq := hq.1 hb
        refine ev_fg [true, false, true] (loc' := [some (.ref 46), none, some (.int x2)]) rfl ?_
        exact s_M_lost_34 (T := T) hq
      · have hq := hq.2 hb
        refine ev_seq 4 (ip' := 35) (loc' := [some (.ref 46), some (.int x1), some (.int x2)]) (st' := [(.int ((1 : Int32) <<< (x2 &&& 31))), (.int x1)]) (I1 := I) (T1 := T) rfl ?_
        refine ev_fg [true, false, true] (loc' := [some (.ref 46), none, some (.int x2)]) rfl ?_
        exact s_M_lost_35 (T := T) hq
def t_M_lost_0 (E : MEnv) (I : II) (T : TT) (Q : QQ) : Prop := t_M_lost_7 E (m_up I 46 0 0) T Q 0 0
theorem s_M_lost_0 {E : MEnv} {I : II} {T : TT} {Q : QQ} (hq : t_M_lost_0 E I T Q) : ev E 295 0 [some (.ref 46), none, none] [] I T Q := by
  unfold t_M_lost_0 at hq
  refine ev_seq 7 (ip' := 7) (loc' := [some (.ref 46), some (.int 0), some (.int 0)]) (st' := []) (I1 := m_up I 46 0 0) (T1 := T) rfl ?_
  exact s_M_lost_7 (T := T) hq
/-- FeltHarnessModel.more(II)I -/
def t_M_more_6 (E : MEnv) (I : II) (T : TT) (Q : QQ) (y0 : Int32) : Prop := Q (.inl (some (.int y0))) I T
theorem s_M_more_6 {E : MEnv} {I : II} {T : TT} {Q : QQ} {y0 : Int32} (hq : t_M_more_6 E I T Q y0) : ev E 163 6 [none, none] [(.int y0)] I T Q := by
  unfold t_M_more_6 at hq
  exact ev_ret rfl rfl hq
def t_M_more_0 (E : MEnv) (I : II) (T : TT) (Q : QQ) (x0 : Int32) (x1 : Int32) : Prop := (x0 ≤ x1 → (t_M_more_6 E I T Q x1)) ∧ (¬ (x0 ≤ x1) → (t_M_more_6 E I T Q x0))
theorem s_M_more_0 {E : MEnv} {I : II} {T : TT} {Q : QQ} {x0 : Int32} {x1 : Int32} (hq : t_M_more_0 E I T Q x0 x1) : ev E 163 0 [some (.int x0), some (.int x1)] [] I T Q := by
  unfold t_M_more_0 at hq
  refine ev_seq 2 (ip' := 2) (loc' := [some (.int x0), some (.int x1)]) (st' := [(.int x1), (.int x0)]) (I1 := I) (T1 := T) rfl ?_
  refine ev_br (p := x0 ≤ x1) (a := 5) (b := 3) (st' := []) inferInstance rfl rfl (fun hb => ?_) (fun hb => ?_)
  · have hq := hq.1 hb
    refine ev_seq 1 (ip' := 6) (loc' := [some (.int x0), some (.int x1)]) (st' := [(.int x1)]) (I1 := I) (T1 := T) rfl ?_
    refine ev_fg [false, false] (loc' := [none, none]) rfl ?_
    exact s_M_more_6 (T := T) hq
  · have hq := hq.2 hb
    refine ev_seq 2 (ip' := 6) (loc' := [some (.int x0), some (.int x1)]) (st' := [(.int x0)]) (I1 := I) (T1 := T) rfl ?_
    refine ev_fg [false, false] (loc' := [none, none]) rfl ?_
    exact s_M_more_6 (T := T) hq
/-- FeltHarnessModel.needs(I)I -/
def t_M_needs_11 (E : MEnv) (I : II) (T : TT) (Q : QQ) (x1 : Int32) (y1 : Int32) : Prop := ev E 58 0 [some (.ref 46), some (.int y1), some (.int 1), some (.int 0)] [] I T (KI (fun v1 I1 T1 => (v1 = 0 → ((¬ x1 < 0 ∧ x1.toNatClampNeg < 6) ∧ (ev E 156 0 [some (.ref 46), some (.ref 508), some (.int 1), none, none, none, none] [] I1 T1 (KI (fun v3 I3 T3 => ev E 163 0 [some (.int 0), some (.int ((((I1 (77 + x1.toNatClampNeg) 0) / 3) + 1) - v3))] [] I3 T3 (KI (fun v4 I4 T4 => Q (.inl (some (.int v4))) I4 T4) (fun _ _ _ => False))) (fun x I1 T1 => Q (.inr x) I1 T1))))) ∧ (¬ (v1 = 0) → (Q (.inl (some (.int 0))) I1 T1))) (fun x I1 T1 => Q (.inr x) I1 T1))
theorem s_M_needs_11 {E : MEnv} {I : II} {T : TT} {Q : QQ} {x1 : Int32} {y1 : Int32} (hq : t_M_needs_11 E I T Q x1 y1) : ev E 304 11 [some (.ref 46), some (.int x1)] [(.int y1), (.ref 46)] I T Q := by
  unfold t_M_needs_11 at hq
  refine ev_seq 2 (ip' := 13) (loc' := [some (.ref 46), some (.int x1)]) (st' := [(.int 0), (.int 1), (.int y1), (.ref 46)]) (I1 := I) (T1 := T) rfl ?_
  refine ev_callI rfl rfl rfl (fun v1 I1 T1 hq => ?_) (fun x I1 T1 hq => ?_) hq
  · refine ev_br (p := v1 = 0) (a := 17) (b := 15) (st' := []) inferInstance rfl rfl (fun hb => ?_) (fun hb => ?_)
    · have hq := hq.1 hb
      refine ev_seq 4 (ip' := 21) (loc' := [some (.ref 46), some (.int x1)]) (st' := [(.int x1), (.ref 76), (.int 0)]) (I1 := I1) (T1 := T1) rfl ?_
      obtain ⟨hg, hq⟩ := hq
      have hr2 := hg
      refine ev_aald rfl rfl hg (RF_76 hg.2) ?_
      refine ev_seq 1 (ip' := 23) (loc' := [some (.ref 46), some (.int x1)]) (st' := [(.int 0), (.ref (77 + x1.toNatClampNeg)), (.int 0)]) (I1 := I1) (T1 := T1) rfl ?_
      refine ev_iald rfl (KF_76 hr2.2) ⟨by decide, by decide⟩ ?_
      refine ev_seq 8 (ip' := 32) (loc' := [some (.ref 46), some (.int x1)]) (st' := [(.int 1), (.ref 508), (.ref 46), (.int (((I1 (77 + x1.toNatClampNeg) 0) / 3) + 1)), (.int 0)]) (I1 := I1) (T1 := T1) rfl ?_
      refine ev_callI rfl rfl rfl (fun v3 I3 T3 hq => ?_) (fun x I1 T1 hq => ?_) hq
      · refine ev_seq 1 (ip' := 34) (loc' := [some (.ref 46), some (.int x1)]) (st' := [(.int ((((I1 (77 + x1.toNatClampNeg) 0) / 3) + 1) - v3)), (.int 0)]) (I1 := I3) (T1 := T3) rfl ?_
        refine ev_callI rfl rfl rfl (fun v4 I4 T4 hq => ?_) (fun x I1 T1 hq => ?_) hq
        · exact ev_ret rfl rfl hq
        · exact hq.elim
      · exact ⟨by decide, hq⟩
    · have hq := hq.2 hb
      refine ev_seq 1 (ip' := 16) (loc' := [some (.ref 46), some (.int x1)]) (st' := [(.int 0)]) (I1 := I1) (T1 := T1) rfl ?_
      exact ev_ret rfl rfl hq
  · exact ⟨by decide, hq⟩
def t_M_needs_0 (E : MEnv) (I : II) (T : TT) (Q : QQ) (x1 : Int32) : Prop := ev E 195 0 [some (.ref 46), some (.int x1)] [] (m_up I 46 0 0) T (KI (fun v1 I1 T1 => (v1 = 0 → (t_M_needs_11 E I1 T1 Q x1 1)) ∧ (¬ (v1 = 0) → (t_M_needs_11 E I1 T1 Q x1 0))) (fun x I1 T1 => Q (.inr x) I1 T1))
theorem s_M_needs_0 {E : MEnv} {I : II} {T : TT} {Q : QQ} {x1 : Int32} (hq : t_M_needs_0 E I T Q x1) : ev E 304 0 [some (.ref 46), some (.int x1)] [] I T Q := by
  unfold t_M_needs_0 at hq
  refine ev_seq 6 (ip' := 6) (loc' := [some (.ref 46), some (.int x1)]) (st' := [(.int x1), (.ref 46), (.ref 46)]) (I1 := m_up I 46 0 0) (T1 := T) rfl ?_
  refine ev_callI rfl rfl rfl (fun v1 I1 T1 hq => ?_) (fun x I1 T1 hq => ?_) hq
  · refine ev_br (p := v1 = 0) (a := 8) (b := 10) (st' := [(.ref 46)]) inferInstance rfl rfl (fun hb => ?_) (fun hb => ?_)
    · have hq := hq.1 hb
      refine ev_seq 2 (ip' := 11) (loc' := [some (.ref 46), some (.int x1)]) (st' := [(.int 1), (.ref 46)]) (I1 := I1) (T1 := T1) rfl ?_
      exact s_M_needs_11 (T := T1) hq
    · have hq := hq.2 hb
      refine ev_seq 1 (ip' := 11) (loc' := [some (.ref 46), some (.int x1)]) (st' := [(.int 0), (.ref 46)]) (I1 := I1) (T1 := T1) rfl ?_
      exact s_M_needs_11 (T := T1) hq
  · exact ⟨by decide, hq⟩
/-- FeltHarnessModel.notes(II)V -/
def t_M_notes_0 (E : MEnv) (I : II) (T : TT) (Q : QQ) (x1 : Int32) (x2 : Int32) : Prop := ((I 46 5) = 0 → ((¬ (I 46 20) < 0 ∧ (I 46 20).toNatClampNeg < 160) ∧ ((¬ ((m_up I (247 + (I 46 20).toNatClampNeg) 0 x1) 46 20) < 0 ∧ ((m_up I (247 + (I 46 20).toNatClampNeg) 0 x1) 46 20).toNatClampNeg < 160) ∧ (Q (.inl none) (m_up (m_up (m_up I (247 + (I 46 20).toNatClampNeg) 0 x1) (247 + ((m_up I (247 + (I 46 20).toNatClampNeg) 0 x1) 46 20).toNatClampNeg) 1 x2) 46 20 (((m_up (m_up I (247 + (I 46 20).toNatClampNeg) 0 x1) (247 + ((m_up I (247 + (I 46 20).toNatClampNeg) 0 x1) 46 20).toNatClampNeg) 1 x2) 46 20) + 1)) T)))) ∧ (¬ ((I 46 5) = 0) → (Q (.inl none) I T))
theorem s_M_notes_0 {E : MEnv} {I : II} {T : TT} {Q : QQ} {x1 : Int32} {x2 : Int32} (hq : t_M_notes_0 E I T Q x1 x2) : ev E 90 0 [some (.ref 46), some (.int x1), some (.int x2)] [] I T Q := by
  unfold t_M_notes_0 at hq
  refine ev_seq 2 (ip' := 2) (loc' := [some (.ref 46), some (.int x1), some (.int x2)]) (st' := [(.int (I 46 5))]) (I1 := I) (T1 := T) rfl ?_
  refine ev_br (p := (I 46 5) = 0) (a := 4) (b := 3) (st' := []) inferInstance rfl rfl (fun hb => ?_) (fun hb => ?_)
  · have hq := hq.1 hb
    refine ev_seq 4 (ip' := 8) (loc' := [some (.ref 46), some (.int x1), some (.int x2)]) (st' := [(.int (I 46 20)), (.ref 246)]) (I1 := I) (T1 := T) rfl ?_
    obtain ⟨hg, hq⟩ := hq
    have hr1 := hg
    refine ev_aald rfl rfl hg (RF_246 hg.2) ?_
    refine ev_seq 2 (ip' := 11) (loc' := [some (.ref 46), some (.int x1), some (.int x2)]) (st' := [(.int x1), (.int 0), (.ref (247 + (I 46 20).toNatClampNeg))]) (I1 := I) (T1 := T) rfl ?_
    refine ev_iast rfl (KF_246 hr1.2) ⟨by decide, by decide⟩ ?_
    refine ev_seq 4 (ip' := 16) (loc' := [some (.ref 46), some (.int x1), some (.int x2)]) (st' := [(.int ((m_up I (247 + (I 46 20).toNatClampNeg) 0 x1) 46 20)), (.ref 246)]) (I1 := m_up I (247 + (I 46 20).toNatClampNeg) 0 x1) (T1 := T) rfl ?_
    obtain ⟨hg, hq⟩ := hq
    have hr2 := hg
    refine ev_aald rfl rfl hg (RF_246 hg.2) ?_
    refine ev_seq 2 (ip' := 19) (loc' := [some (.ref 46), some (.int x1), some (.int x2)]) (st' := [(.int x2), (.int 1), (.ref (247 + ((m_up I (247 + (I 46 20).toNatClampNeg) 0 x1) 46 20).toNatClampNeg))]) (I1 := m_up I (247 + (I 46 20).toNatClampNeg) 0 x1) (T1 := T) rfl ?_
    refine ev_iast rfl (KF_246 hr2.2) ⟨by decide, by decide⟩ ?_
    refine ev_seq 6 (ip' := 26) (loc' := [some (.ref 46), some (.int x1), some (.int x2)]) (st' := []) (I1 := m_up (m_up (m_up I (247 + (I 46 20).toNatClampNeg) 0 x1) (247 + ((m_up I (247 + (I 46 20).toNatClampNeg) 0 x1) 46 20).toNatClampNeg) 1 x2) 46 20 (((m_up (m_up I (247 + (I 46 20).toNatClampNeg) 0 x1) (247 + ((m_up I (247 + (I 46 20).toNatClampNeg) 0 x1) 46 20).toNatClampNeg) 1 x2) 46 20) + 1)) (T1 := T) rfl ?_
    exact ev_ret rfl rfl hq
  · have hq := hq.2 hb
    exact ev_ret rfl rfl hq
/-- FeltHarnessModel.number(II)I -/
def t_M_number_69 (E : MEnv) (I : II) (T : TT) (Q : QQ) (y0 : Int32) : Prop := Q (.inl (some (.int y0))) I T
theorem s_M_number_69 {E : MEnv} {I : II} {T : TT} {Q : QQ} {y0 : Int32} (hq : t_M_number_69 E I T Q y0) : ev E 71 69 [none, none, none, none, none] [(.int y0)] I T Q := by
  unfold t_M_number_69 at hq
  exact ev_ret rfl rfl hq
def t_M_number_63 (E : MEnv) (I : II) (T : TT) (Q : QQ) (x4 : Int32) : Prop := ((I 46 5) = 0 → (t_M_number_69 E I T Q x4)) ∧ (¬ ((I 46 5) = 0) → (t_M_number_69 E I T Q 0))
theorem s_M_number_63 {E : MEnv} {I : II} {T : TT} {Q : QQ} {x4 : Int32} (hq : t_M_number_63 E I T Q x4) : ev E 71 63 [some (.ref 46), none, none, none, some (.int x4)] [] I T Q := by
  unfold t_M_number_63 at hq
  refine ev_seq 2 (ip' := 65) (loc' := [some (.ref 46), none, none, none, some (.int x4)]) (st' := [(.int (I 46 5))]) (I1 := I) (T1 := T) rfl ?_
  refine ev_br (p := (I 46 5) = 0) (a := 66) (b := 68) (st' := []) inferInstance rfl rfl (fun hb => ?_) (fun hb => ?_)
  · have hq := hq.1 hb
    refine ev_seq 2 (ip' := 69) (loc' := [some (.ref 46), none, none, none, some (.int x4)]) (st' := [(.int x4)]) (I1 := I) (T1 := T) rfl ?_
    refine ev_fg [false, true, true, true, false] (loc' := [none, none, none, none, none]) rfl ?_
    exact s_M_number_69 (T := T) hq
  · have hq := hq.2 hb
    refine ev_seq 1 (ip' := 69) (loc' := [some (.ref 46), none, none, none, some (.int x4)]) (st' := [(.int 0)]) (I1 := I) (T1 := T) rfl ?_
    refine ev_fg [false, true, true, true, false] (loc' := [none, none, none, none, none]) rfl ?_
    exact s_M_number_69 (T := T) hq
def t_M_number_46 (E : MEnv) (I : II) (T : TT) (Q : QQ) (x1 : Int32) (x2 : Int32) (x3 : Int32) (y0 : Int32) : Prop := ev E 71 23 [some (.ref 46), some (.int x1), some (.int x2), some (.int x3), some (.int y0)] [] (m_up I 46 4 ((I 46 4) + 1)) T Q
theorem s_M_number_46 {E : MEnv} {I : II} {T : TT} {Q : QQ} {x1 : Int32} {x2 : Int32} {x3 : Int32} {y0 : Int32} (hq : t_M_number_46 E I T Q x1 x2 x3 y0) : ev E 71 46 [some (.ref 46), some (.int x1), some (.int x2), some (.int x3), none] [(.int y0)] I T Q := by
  unfold t_M_number_46 at hq
  refine ev_seq 8 (ip' := 23) (loc' := [some (.ref 46), some (.int x1), some (.int x2), some (.int x3), some (.int y0)]) (st' := []) (I1 := m_up I 46 4 ((I 46 4) + 1)) (T1 := T) rfl ?_
  exact hq
def t_M_number_23 (E : MEnv) (I : II) (T : TT) (Q : QQ) (x1 : Int32) (x2 : Int32) (x3 : Int32) (x4 : Int32) : Prop := ev E 61 0 [some (.ref 46), some (.int (I 46 4))] [] I T (KI (fun v1 I1 T1 => ev E 72 0 [some (.int v1)] [] I1 T1 (KI (fun v2 I2 T2 => (v2 = 0 → (ev E 57 0 [some (.int x4), some (.int x1), some (.int x2)] [] I2 T2 (KI (fun v3 I3 T3 => (v3 = 0 → (ev E 69 0 [some (.ref 46), some (.int 2), some (.int x3)] [] I3 T3 (KV (fun I4 T4 => t_M_number_63 E I4 T4 Q x4) (fun x I1 T1 => Q (.inr x) I1 T1)))) ∧ (¬ (v3 = 0) → (t_M_number_63 E I3 T3 Q x4))) (fun _ _ _ => False)))) ∧ (¬ (v2 = 0) → (ev E 61 0 [some (.ref 46), some (.int (I2 46 4))] [] I2 T2 (KI (fun v5 I5 T5 => ((((10 * x4) + v5) - 48) ≤ 100000 → (t_M_number_46 E I5 T5 Q x1 x2 x3 (((10 * x4) + v5) - 48))) ∧ (¬ ((((10 * x4) + v5) - 48) ≤ 100000) → (t_M_number_46 E I5 T5 Q x1 x2 x3 100000))) (fun x I1 T1 => Q (.inr x) I1 T1))))) (fun _ _ _ => False))) (fun x I1 T1 => Q (.inr x) I1 T1))
theorem s_M_number_23 {E : MEnv} {I : II} {T : TT} {Q : QQ} {x1 : Int32} {x2 : Int32} {x3 : Int32} {x4 : Int32} (hq : t_M_number_23 E I T Q x1 x2 x3 x4) : ev E 71 23 [some (.ref 46), some (.int x1), some (.int x2), some (.int x3), some (.int x4)] [] I T Q := by
  unfold t_M_number_23 at hq
  refine ev_seq 3 (ip' := 26) (loc' := [some (.ref 46), some (.int x1), some (.int x2), some (.int x3), some (.int x4)]) (st' := [(.int (I 46 4)), (.ref 46)]) (I1 := I) (T1 := T) rfl ?_
  refine ev_callI rfl rfl rfl (fun v1 I1 T1 hq => ?_) (fun x I1 T1 hq => ?_) hq
  · refine ev_callI rfl rfl rfl (fun v2 I2 T2 hq => ?_) (fun x I1 T1 hq => ?_) hq
    · refine ev_br (p := v2 = 0) (a := 54) (b := 29) (st' := []) inferInstance rfl rfl (fun hb => ?_) (fun hb => ?_)
      · have hq := hq.1 hb
        refine ev_seq 3 (ip' := 57) (loc' := [some (.ref 46), some (.int x1), some (.int x2), some (.int x3), some (.int x4)]) (st' := [(.int x2), (.int x1), (.int x4)]) (I1 := I2) (T1 := T2) rfl ?_
        refine ev_callI rfl rfl rfl (fun v3 I3 T3 hq => ?_) (fun x I1 T1 hq => ?_) hq
        · refine ev_br (p := v3 = 0) (a := 59) (b := 63) (st' := []) inferInstance rfl rfl (fun hb => ?_) (fun hb => ?_)
          · have hq := hq.1 hb
            refine ev_seq 3 (ip' := 62) (loc' := [some (.ref 46), some (.int x1), some (.int x2), some (.int x3), some (.int x4)]) (st' := [(.int x3), (.int 2), (.ref 46)]) (I1 := I3) (T1 := T3) rfl ?_
            refine ev_callV rfl rfl rfl (fun I4 T4 hq => ?_) (fun x I1 T1 hq => ?_) hq
            · refine ev_fg [true, false, false, false, true] (loc' := [some (.ref 46), none, none, none, some (.int x4)]) rfl ?_
              exact s_M_number_63 (T := T4) hq
            · exact ⟨by decide, hq⟩
          · have hq := hq.2 hb
            refine ev_fg [true, false, false, false, true] (loc' := [some (.ref 46), none, none, none, some (.int x4)]) rfl ?_
            exact s_M_number_63 (T := T3) hq
        · exact hq.elim
      · have hq := hq.2 hb
        refine ev_seq 6 (ip' := 35) (loc' := [some (.ref 46), some (.int x1), some (.int x2), some (.int x3), some (.int x4)]) (st' := [(.int (I2 46 4)), (.ref 46), (.int (10 * x4))]) (I1 := I2) (T1 := T2) rfl ?_
        refine ev_callI rfl rfl rfl (fun v5 I5 T5 hq => ?_) (fun x I1 T1 hq => ?_) hq
        · refine ev_seq 6 (ip' := 42) (loc' := [some (.ref 46), some (.int x1), some (.int x2), some (.int x3), some (.int (((10 * x4) + v5) - 48))]) (st' := [(.int 100000), (.int (((10 * x4) + v5) - 48))]) (I1 := I5) (T1 := T5) rfl ?_
          refine ev_br (p := (((10 * x4) + v5) - 48) ≤ 100000) (a := 45) (b := 43) (st' := []) inferInstance rfl rfl (fun hb => ?_) (fun hb => ?_)
          · have hq := hq.1 hb
            refine ev_seq 1 (ip' := 46) (loc' := [some (.ref 46), some (.int x1), some (.int x2), some (.int x3), some (.int (((10 * x4) + v5) - 48))]) (st' := [(.int (((10 * x4) + v5) - 48))]) (I1 := I5) (T1 := T5) rfl ?_
            refine ev_fg [true, true, true, true, false] (loc' := [some (.ref 46), some (.int x1), some (.int x2), some (.int x3), none]) rfl ?_
            exact s_M_number_46 (T := T5) hq
          · have hq := hq.2 hb
            refine ev_seq 2 (ip' := 46) (loc' := [some (.ref 46), some (.int x1), some (.int x2), some (.int x3), some (.int (((10 * x4) + v5) - 48))]) (st' := [(.int 100000)]) (I1 := I5) (T1 := T5) rfl ?_
            refine ev_fg [true, true, true, true, false] (loc' := [some (.ref 46), some (.int x1), some (.int x2), some (.int x3), none]) rfl ?_
            exact s_M_number_46 (T := T5) hq
        · exact ⟨by decide, hq⟩
    · exact hq.elim
  · exact ⟨by decide, hq⟩
def t_M_number_0 (E : MEnv) (I : II) (T : TT) (Q : QQ) (x1 : Int32) (x2 : Int32) : Prop := ((I 46 5) = 0 → (ev E 60 0 [some (.ref 46)] [] I T (KV (fun I1 T1 => ev E 61 0 [some (.ref 46), some (.int (I1 46 4))] [] I1 T1 (KI (fun v2 I2 T2 => ev E 72 0 [some (.int v2)] [] I2 T2 (KI (fun v3 I3 T3 => (v3 = 0 → (ev E 69 0 [some (.ref 46), some (.int 1), some (.int (I3 46 4))] [] I3 T3 (KV (fun I4 T4 => t_M_number_23 E I4 T4 Q x1 x2 (I1 46 4) 0) (fun x I1 T1 => Q (.inr x) I1 T1)))) ∧ (¬ (v3 = 0) → (t_M_number_23 E I3 T3 Q x1 x2 (I1 46 4) 0))) (fun _ _ _ => False))) (fun x I1 T1 => Q (.inr x) I1 T1))) (fun x I1 T1 => Q (.inr x) I1 T1)))) ∧ (¬ ((I 46 5) = 0) → (Q (.inl (some (.int 0))) I T))
theorem s_M_number_0 {E : MEnv} {I : II} {T : TT} {Q : QQ} {x1 : Int32} {x2 : Int32} (hq : t_M_number_0 E I T Q x1 x2) : ev E 71 0 [some (.ref 46), some (.int x1), some (.int x2), none, none] [] I T Q := by
  unfold t_M_number_0 at hq
  refine ev_seq 2 (ip' := 2) (loc' := [some (.ref 46), some (.int x1), some (.int x2), none, none]) (st' := [(.int (I 46 5))]) (I1 := I) (T1 := T) rfl ?_
  refine ev_br (p := (I 46 5) = 0) (a := 5) (b := 3) (st' := []) inferInstance rfl rfl (fun hb => ?_) (fun hb => ?_)
  · have hq := hq.1 hb
    refine ev_seq 1 (ip' := 6) (loc' := [some (.ref 46), some (.int x1), some (.int x2), none, none]) (st' := [(.ref 46)]) (I1 := I) (T1 := T) rfl ?_
    refine ev_callV rfl rfl rfl (fun I1 T1 hq => ?_) (fun x I1 T1 hq => ?_) hq
    · refine ev_seq 8 (ip' := 15) (loc' := [some (.ref 46), some (.int x1), some (.int x2), some (.int (I1 46 4)), some (.int 0)]) (st' := [(.int (I1 46 4)), (.ref 46)]) (I1 := I1) (T1 := T1) rfl ?_
      refine ev_callI rfl rfl rfl (fun v2 I2 T2 hq => ?_) (fun x I1 T1 hq => ?_) hq
      · refine ev_callI rfl rfl rfl (fun v3 I3 T3 hq => ?_) (fun x I1 T1 hq => ?_) hq
        · refine ev_br (p := v3 = 0) (a := 18) (b := 23) (st' := []) inferInstance rfl rfl (fun hb => ?_) (fun hb => ?_)
          · have hq := hq.1 hb
            refine ev_seq 4 (ip' := 22) (loc' := [some (.ref 46), some (.int x1), some (.int x2), some (.int (I1 46 4)), some (.int 0)]) (st' := [(.int (I3 46 4)), (.int 1), (.ref 46)]) (I1 := I3) (T1 := T3) rfl ?_
            refine ev_callV rfl rfl rfl (fun I4 T4 hq => ?_) (fun x I1 T1 hq => ?_) hq
            · exact s_M_number_23 (T := T4) hq
            · exact ⟨by decide, hq⟩
          · have hq := hq.2 hb
            exact s_M_number_23 (T := T3) hq
        · exact hq.elim
      · exact ⟨by decide, hq⟩
    · exact ⟨by decide, hq⟩
  · have hq := hq.2 hb
    refine ev_seq 1 (ip' := 4) (loc' := [some (.ref 46), some (.int x1), some (.int x2), none, none]) (st' := [(.int 0)]) (I1 := I) (T1 := T) rfl ?_
    exact ev_ret rfl rfl hq
/-- FeltHarnessModel.oats(III)I -/
def t_M_oats_71 (E : MEnv) (I : II) (T : TT) (Q : QQ) (y0 : Int32) : Prop := Q (.inl (some (.int y0))) I T
theorem s_M_oats_71 {E : MEnv} {I : II} {T : TT} {Q : QQ} {y0 : Int32} (hq : t_M_oats_71 E I T Q y0) : ev E 278 71 [none, none, none, none, none] [(.int y0)] I T Q := by
  unfold t_M_oats_71 at hq
  exact ev_ret rfl rfl hq
def t_M_oats_57 (E : MEnv) (I : II) (T : TT) (Q : QQ) (x1 : Int32) (x2 : Int32) (x4 : Int32) : Prop := ev E 166 0 [some (.int x2), some (.int x1)] [] I T (KI (fun v1 I1 T1 => (v1 = 0 → (t_M_oats_71 E I1 T1 Q 0)) ∧ (¬ (v1 = 0) → ((¬ (16 + x1) < 0 ∧ (16 + x1).toNatClampNeg < 29) ∧ (ev E 162 0 [some (.int x4), some (.int (I1 508 (16 + x1).toNatClampNeg))] [] I1 T1 (KI (fun v2 I2 T2 => t_M_oats_71 E I2 T2 Q v2) (fun _ _ _ => False)))))) (fun _ _ _ => False))
theorem s_M_oats_57 {E : MEnv} {I : II} {T : TT} {Q : QQ} {x1 : Int32} {x2 : Int32} {x4 : Int32} (hq : t_M_oats_57 E I T Q x1 x2 x4) : ev E 278 57 [some (.ref 46), some (.int x1), some (.int x2), none, some (.int x4)] [] I T Q := by
  unfold t_M_oats_57 at hq
  refine ev_seq 2 (ip' := 59) (loc' := [some (.ref 46), some (.int x1), some (.int x2), none, some (.int x4)]) (st' := [(.int x1), (.int x2)]) (I1 := I) (T1 := T) rfl ?_
  refine ev_callI rfl rfl rfl (fun v1 I1 T1 hq => ?_) (fun x I1 T1 hq => ?_) hq
  · refine ev_br (p := v1 = 0) (a := 70) (b := 61) (st' := []) inferInstance rfl rfl (fun hb => ?_) (fun hb => ?_)
    · have hq := hq.1 hb
      refine ev_seq 1 (ip' := 71) (loc' := [some (.ref 46), some (.int x1), some (.int x2), none, some (.int x4)]) (st' := [(.int 0)]) (I1 := I1) (T1 := T1) rfl ?_
      refine ev_fg [false, false, false, true, false] (loc' := [none, none, none, none, none]) rfl ?_
      exact s_M_oats_71 (T := T1) hq
    · have hq := hq.2 hb
      refine ev_seq 6 (ip' := 67) (loc' := [some (.ref 46), some (.int x1), some (.int x2), none, some (.int x4)]) (st' := [(.int (16 + x1)), (.ref 508), (.int x4)]) (I1 := I1) (T1 := T1) rfl ?_
      obtain ⟨hg, hq⟩ := hq
      refine ev_iald rfl rfl hg ?_
      refine ev_callI rfl rfl rfl (fun v2 I2 T2 hq => ?_) (fun x I1 T1 hq => ?_) hq
      · refine ev_seq 1 (ip' := 71) (loc' := [some (.ref 46), some (.int x1), some (.int x2), none, some (.int x4)]) (st' := [(.int v2)]) (I1 := I2) (T1 := T2) rfl ?_
        refine ev_fg [false, false, false, true, false] (loc' := [none, none, none, none, none]) rfl ?_
        exact s_M_oats_71 (T := T2) hq
      · exact hq.elim
  · exact hq.elim
def t_M_oats_44 (E : MEnv) (I : II) (T : TT) (Q : QQ) (x1 : Int32) (x2 : Int32) (x3 : Int32) (x4 : Int32) : Prop := (999 ≤ x4 → (t_M_oats_57 E I T Q x1 x2 x4)) ∧ (¬ (999 ≤ x4) → (ev E 279 0 [some (.ref 46), some (.int x2), some (.int (x4 + 1)), none, none] [] I T (KI (fun v1 I1 T1 => (x3 < v1 → (t_M_oats_57 E I1 T1 Q x1 x2 x4)) ∧ (¬ (x3 < v1) → (ev E 278 44 [some (.ref 46), some (.int x1), some (.int x2), some (.int x3), some (.int (x4 + 1))] [] I1 T1 Q))) (fun x I1 T1 => Q (.inr x) I1 T1))))
theorem s_M_oats_44 {E : MEnv} {I : II} {T : TT} {Q : QQ} {x1 : Int32} {x2 : Int32} {x3 : Int32} {x4 : Int32} (hq : t_M_oats_44 E I T Q x1 x2 x3 x4) : ev E 278 44 [some (.ref 46), some (.int x1), some (.int x2), some (.int x3), some (.int x4)] [] I T Q := by
  unfold t_M_oats_44 at hq
  refine ev_seq 2 (ip' := 46) (loc' := [some (.ref 46), some (.int x1), some (.int x2), some (.int x3), some (.int x4)]) (st' := [(.int 999), (.int x4)]) (I1 := I) (T1 := T) rfl ?_
  refine ev_br (p := 999 ≤ x4) (a := 57) (b := 47) (st' := []) inferInstance rfl rfl (fun hb => ?_) (fun hb => ?_)
  · have hq := hq.1 hb
    refine ev_fg [true, true, true, false, true] (loc' := [some (.ref 46), some (.int x1), some (.int x2), none, some (.int x4)]) rfl ?_
    exact s_M_oats_57 (T := T) hq
  · have hq := hq.2 hb
    refine ev_seq 5 (ip' := 52) (loc' := [some (.ref 46), some (.int x1), some (.int x2), some (.int x3), some (.int x4)]) (st' := [(.int (x4 + 1)), (.int x2), (.ref 46)]) (I1 := I) (T1 := T) rfl ?_
    refine ev_callI rfl rfl rfl (fun v1 I1 T1 hq => ?_) (fun x I1 T1 hq => ?_) hq
    · refine ev_seq 1 (ip' := 54) (loc' := [some (.ref 46), some (.int x1), some (.int x2), some (.int x3), some (.int x4)]) (st' := [(.int x3), (.int v1)]) (I1 := I1) (T1 := T1) rfl ?_
      refine ev_br (p := x3 < v1) (a := 57) (b := 55) (st' := []) inferInstance rfl rfl (fun hb => ?_) (fun hb => ?_)
      · have hq := hq.1 hb
        refine ev_fg [true, true, true, false, true] (loc' := [some (.ref 46), some (.int x1), some (.int x2), none, some (.int x4)]) rfl ?_
        exact s_M_oats_57 (T := T1) hq
      · have hq := hq.2 hb
        refine ev_seq 2 (ip' := 44) (loc' := [some (.ref 46), some (.int x1), some (.int x2), some (.int x3), some (.int (x4 + 1))]) (st' := []) (I1 := I1) (T1 := T1) rfl ?_
        exact hq
    · exact ⟨by decide, hq⟩
def t_M_oats_40 (E : MEnv) (I : II) (T : TT) (Q : QQ) : Prop := Q (.inl (some (.int 0))) I T
theorem s_M_oats_40 {E : MEnv} {I : II} {T : TT} {Q : QQ} (hq : t_M_oats_40 E I T Q) : ev E 278 40 [none, none, none, none, none] [] I T Q := by
  unfold t_M_oats_40 at hq
  refine ev_seq 1 (ip' := 41) (loc' := [none, none, none, none, none]) (st' := [(.int 0)]) (I1 := I) (T1 := T) rfl ?_
  exact ev_ret rfl rfl hq
def t_M_oats_36 (E : MEnv) (I : II) (T : TT) (Q : QQ) (x1 : Int32) (x2 : Int32) (x3 : Int32) (y1 : Int32) : Prop := ev E 58 0 [some (.ref 46), some (.int y1), some (.int 2), some (.int 1)] [] I T (KI (fun v1 I1 T1 => (v1 = 0 → (t_M_oats_44 E I1 T1 Q x1 x2 x3 0)) ∧ (¬ (v1 = 0) → (t_M_oats_40 E I1 T1 Q ))) (fun x I1 T1 => Q (.inr x) I1 T1))
theorem s_M_oats_36 {E : MEnv} {I : II} {T : TT} {Q : QQ} {x1 : Int32} {x2 : Int32} {x3 : Int32} {y1 : Int32} (hq : t_M_oats_36 E I T Q x1 x2 x3 y1) : ev E 278 36 [some (.ref 46), some (.int x1), some (.int x2), some (.int x3), none] [(.int y1), (.ref 46)] I T Q := by
  unfold t_M_oats_36 at hq
  refine ev_seq 2 (ip' := 38) (loc' := [some (.ref 46), some (.int x1), some (.int x2), some (.int x3), none]) (st' := [(.int 1), (.int 2), (.int y1), (.ref 46)]) (I1 := I) (T1 := T) rfl ?_
  refine ev_callI rfl rfl rfl (fun v1 I1 T1 hq => ?_) (fun x I1 T1 hq => ?_) hq
  · refine ev_br (p := v1 = 0) (a := 42) (b := 40) (st' := []) inferInstance rfl rfl (fun hb => ?_) (fun hb => ?_)
    · have hq := hq.1 hb
      refine ev_seq 2 (ip' := 44) (loc' := [some (.ref 46), some (.int x1), some (.int x2), some (.int x3), some (.int 0)]) (st' := []) (I1 := I1) (T1 := T1) rfl ?_
      exact s_M_oats_44 (T := T1) hq
    · have hq := hq.2 hb
      refine ev_fg [false, false, false, false, true] (loc' := [none, none, none, none, none]) rfl ?_
      exact s_M_oats_40 (T := T1) hq
  · exact ⟨by decide, hq⟩
def t_M_oats_33 (E : MEnv) (I : II) (T : TT) (Q : QQ) (x1 : Int32) (x2 : Int32) (x3 : Int32) : Prop := t_M_oats_36 E I T Q x1 x2 x3 1
theorem s_M_oats_33 {E : MEnv} {I : II} {T : TT} {Q : QQ} {x1 : Int32} {x2 : Int32} {x3 : Int32} (hq : t_M_oats_33 E I T Q x1 x2 x3) : ev E 278 33 [some (.ref 46), some (.int x1), some (.int x2), some (.int x3), none] [(.ref 46)] I T Q := by
  unfold t_M_oats_33 at hq
  refine ev_seq 2 (ip' := 36) (loc' := [some (.ref 46), some (.int x1), some (.int x2), some (.int x3), none]) (st' := [(.int 1), (.ref 46)]) (I1 := I) (T1 := T) rfl ?_
  exact s_M_oats_36 (T := T) hq
def t_M_oats_11 (E : MEnv) (I : II) (T : TT) (Q : QQ) (x1 : Int32) (x2 : Int32) (x3 : Int32) (y1 : Int32) : Prop := ev E 58 0 [some (.ref 46), some (.int y1), some (.int 1), some (.int 0)] [] I T (KI (fun v1 I1 T1 => (v1 = 0 → (ev E 57 0 [some (.int x2), some (.int 0), some (.int (((1 : Int32) <<< ((I1 50 0) &&& 31)) - 1))] [] I1 T1 (KI (fun v2 I2 T2 => (v2 = 0 → (t_M_oats_33 E I2 T2 Q x1 x2 x3)) ∧ (¬ (v2 = 0) → (ev E 57 0 [some (.int x3), some (.int 0), some (.int 9999)] [] I2 T2 (KI (fun v3 I3 T3 => (v3 = 0 → (t_M_oats_33 E I3 T3 Q x1 x2 x3)) ∧ (¬ (v3 = 0) → (t_M_oats_36 E I3 T3 Q x1 x2 x3 0))) (fun _ _ _ => False))))) (fun _ _ _ => False)))) ∧ (¬ (v1 = 0) → (t_M_oats_40 E I1 T1 Q ))) (fun x I1 T1 => Q (.inr x) I1 T1))
theorem s_M_oats_11 {E : MEnv} {I : II} {T : TT} {Q : QQ} {x1 : Int32} {x2 : Int32} {x3 : Int32} {y1 : Int32} (hq : t_M_oats_11 E I T Q x1 x2 x3 y1) : ev E 278 11 [some (.ref 46), some (.int x1), some (.int x2), some (.int x3), none] [(.int y1), (.ref 46)] I T Q := by
  unfold t_M_oats_11 at hq
  refine ev_seq 2 (ip' := 13) (loc' := [some (.ref 46), some (.int x1), some (.int x2), some (.int x3), none]) (st' := [(.int 0), (.int 1), (.int y1), (.ref 46)]) (I1 := I) (T1 := T) rfl ?_
  refine ev_callI rfl rfl rfl (fun v1 I1 T1 hq => ?_) (fun x I1 T1 hq => ?_) hq
  · refine ev_br (p := v1 = 0) (a := 15) (b := 40) (st' := []) inferInstance rfl rfl (fun hb => ?_) (fun hb => ?_)
    · have hq := hq.1 hb
      refine ev_seq 11 (ip' := 26) (loc' := [some (.ref 46), some (.int x1), some (.int x2), some (.int x3), none]) (st' := [(.int (((1 : Int32) <<< ((I1 50 0) &&& 31)) - 1)), (.int 0), (.int x2), (.ref 46)]) (I1 := I1) (T1 := T1) rfl ?_
      refine ev_callI rfl rfl rfl (fun v2 I2 T2 hq => ?_) (fun x I1 T1 hq => ?_) hq
      · refine ev_br (p := v2 = 0) (a := 33) (b := 28) (st' := [(.ref 46)]) inferInstance rfl rfl (fun hb => ?_) (fun hb => ?_)
        · have hq := hq.1 hb
          exact s_M_oats_33 (T := T2) hq
        · have hq := hq.2 hb
          refine ev_seq 3 (ip' := 31) (loc' := [some (.ref 46), some (.int x1), some (.int x2), some (.int x3), none]) (st' := [(.int 9999), (.int 0), (.int x3), (.ref 46)]) (I1 := I2) (T1 := T2) rfl ?_
          refine ev_callI rfl rfl rfl (fun v3 I3 T3 hq => ?_) (fun x I1 T1 hq => ?_) hq
          · refine ev_br (p := v3 = 0) (a := 33) (b := 35) (st' := [(.ref 46)]) inferInstance rfl rfl (fun hb => ?_) (fun hb => ?_)
            · have hq := hq.1 hb
              exact s_M_oats_33 (T := T3) hq
            · have hq := hq.2 hb
              refine ev_seq 1 (ip' := 36) (loc' := [some (.ref 46), some (.int x1), some (.int x2), some (.int x3), none]) (st' := [(.int 0), (.ref 46)]) (I1 := I3) (T1 := T3) rfl ?_
              exact s_M_oats_36 (T := T3) hq
          · exact hq.elim
      · exact hq.elim
    · have hq := hq.2 hb
      refine ev_fg [false, false, false, false, true] (loc' := [none, none, none, none, none]) rfl ?_
      exact s_M_oats_40 (T := T1) hq
  · exact ⟨by decide, hq⟩
def t_M_oats_0 (E : MEnv) (I : II) (T : TT) (Q : QQ) (x1 : Int32) (x2 : Int32) (x3 : Int32) : Prop := ev E 190 0 [some (.ref 46), some (.int x1)] [] (m_up I 46 0 0) T (KI (fun v1 I1 T1 => (v1 = 0 → (t_M_oats_11 E I1 T1 Q x1 x2 x3 1)) ∧ (¬ (v1 = 0) → (t_M_oats_11 E I1 T1 Q x1 x2 x3 0))) (fun x I1 T1 => Q (.inr x) I1 T1))
theorem s_M_oats_0 {E : MEnv} {I : II} {T : TT} {Q : QQ} {x1 : Int32} {x2 : Int32} {x3 : Int32} (hq : t_M_oats_0 E I T Q x1 x2 x3) : ev E 278 0 [some (.ref 46), some (.int x1), some (.int x2), some (.int x3), none] [] I T Q := by
  unfold t_M_oats_0 at hq
  refine ev_seq 6 (ip' := 6) (loc' := [some (.ref 46), some (.int x1), some (.int x2), some (.int x3), none]) (st' := [(.int x1), (.ref 46), (.ref 46)]) (I1 := m_up I 46 0 0) (T1 := T) rfl ?_
  refine ev_callI rfl rfl rfl (fun v1 I1 T1 hq => ?_) (fun x I1 T1 hq => ?_) hq
  · refine ev_br (p := v1 = 0) (a := 8) (b := 10) (st' := [(.ref 46)]) inferInstance rfl rfl (fun hb => ?_) (fun hb => ?_)
    · have hq := hq.1 hb
      refine ev_seq 2 (ip' := 11) (loc' := [some (.ref 46), some (.int x1), some (.int x2), some (.int x3), none]) (st' := [(.int 1), (.ref 46)]) (I1 := I1) (T1 := T1) rfl ?_
      exact s_M_oats_11 (T := T1) hq
    · have hq := hq.2 hb
      refine ev_seq 1 (ip' := 11) (loc' := [some (.ref 46), some (.int x1), some (.int x2), some (.int x3), none]) (st' := [(.int 0), (.ref 46)]) (I1 := I1) (T1 := T1) rfl ?_
      exact s_M_oats_11 (T := T1) hq
  · exact ⟨by decide, hq⟩
/-- FeltHarnessModel.one()V -/
def t_M_one_109 (d9 : Nat) (X9 : Nat × (Nat → Int32)) (I : II) (T : TT) (Q : QQ) : Prop := Q (.inl none) I T
theorem s_M_one_109 {d9 : Nat} {X9 : Nat × (Nat → Int32)} {I : II} {T : TT} {Q : QQ} (hq : t_M_one_109 d9 X9 I T Q) : ev (d9 + 1, X9) 88 109 [none, none, none] [] I T Q := by
  unfold t_M_one_109 at hq
  exact ev_ret rfl rfl hq
def t_M_one_29 (d9 : Nat) (X9 : Nat × (Nat → Int32)) (I : II) (T : TT) (Q : QQ) (y0 : Int32) : Prop := (y0 = (-1) → (ev (d9 + 1, X9) 61 0 [some (.ref 46), some (.int (I 46 4))] [] I T (KI (fun v1 I1 T1 => (v1 = 40 → (ev (d9 + 1, X9) 89 0 [some (.ref 46)] [] I1 T1 (KI (fun v2 I2 T2 => (v2 = 0 → (Q (.inl none) I2 T2)) ∧ (¬ (v2 = 0) → (ev (d9, X9) 86 0 [some (.ref 46), none] [] (m_up I2 46 4 ((I2 46 4) + 1)) T2 (KV (fun I3 T3 => ev (d9 + 1, X9) 74 0 [some (.ref 46), some (.int 41)] [] I3 T3 (KV (fun I4 T4 => Q (.inl none) (m_up I4 46 8 ((I4 46 8) - 1)) T4) (fun x I1 T1 => Q (.inr x) I1 T1))) (fun x I1 T1 => Q (.inr x) I1 T1))))) (fun x I1 T1 => Q (.inr x) I1 T1)))) ∧ (¬ (v1 = 40) → (ev (d9 + 1, X9) 91 0 [some (.ref 46)] [] I1 T1 (KI (fun v5 I5 T5 => (v5 = (-1) → (ev (d9 + 1, X9) 71 0 [some (.ref 46), some (.int 0), some (.int 999), none, none] [] I5 T5 (KI (fun v6 I6 T6 => ev (d9 + 1, X9) 90 0 [some (.ref 46), some (.int 0), some (.int v6)] [] I6 T6 (KV (fun I7 T7 => t_M_one_109 d9 X9 I7 T7 Q ) (fun x I1 T1 => Q (.inr x) I1 T1))) (fun x I1 T1 => Q (.inr x) I1 T1)))) ∧ (¬ (v5 = (-1)) → (ev (d9 + 1, X9) 90 0 [some (.ref 46), some (.int 1), some (.int v5)] [] I5 T5 (KV (fun I8 T8 => t_M_one_109 d9 X9 I8 T8 Q ) (fun x I1 T1 => Q (.inr x) I1 T1))))) (fun x I1 T1 => Q (.inr x) I1 T1))))) (fun x I1 T1 => Q (.inr x) I1 T1)))) ∧ (¬ (y0 = (-1)) → (ev (d9 + 1, X9) 89 0 [some (.ref 46)] [] I T (KI (fun v9 I9 T9 => (v9 = 0 → (Q (.inl none) I9 T9)) ∧ (¬ (v9 = 0) → (ev (d9 + 1, X9) 70 0 [some (.ref 46)] [] I9 T9 (KV (fun I10 T10 => ev (d9 + 1, X9) 74 0 [some (.ref 46), some (.int 91)] [] I10 T10 (KV (fun I11 T11 => ev (d9, X9) 86 0 [some (.ref 46), none] [] I11 T11 (KV (fun I12 T12 => ev (d9 + 1, X9) 74 0 [some (.ref 46), some (.int 44)] [] I12 T12 (KV (fun I13 T13 => ev (d9, X9) 86 0 [some (.ref 46), none] [] I13 T13 (KV (fun I14 T14 => ev (d9 + 1, X9) 74 0 [some (.ref 46), some (.int 93)] [] I14 T14 (KV (fun I15 T15 => ev (d9 + 1, X9) 90 0 [some (.ref 46), some (.int y0), some (.int 0)] [] I15 T15 (KV (fun I16 T16 => Q (.inl none) (m_up I16 46 8 ((I16 46 8) - 1)) T16) (fun x I1 T1 => Q (.inr x) I1 T1))) (fun x I1 T1 => Q (.inr x) I1 T1))) (fun x I1 T1 => Q (.inr x) I1 T1))) (fun x I1 T1 => Q (.inr x) I1 T1))) (fun x I1 T1 => Q (.inr x) I1 T1))) (fun x I1 T1 => Q (.inr x) I1 T1))) (fun x I1 T1 => Q (.inr x) I1 T1))))) (fun x I1 T1 => Q (.inr x) I1 T1))))
theorem s_M_one_29 {d9 : Nat} {X9 : Nat × (Nat → Int32)} {I : II} {T : TT} {Q : QQ} {y0 : Int32} (hq : t_M_one_29 d9 X9 I T Q y0) : ev (d9 + 1, X9) 88 29 [some (.ref 46), none, none] [(.int y0)] I T Q := by
  unfold t_M_one_29 at hq
  refine ev_seq 3 (ip' := 32) (loc' := [some (.ref 46), some (.int y0), none]) (st' := [(.int (-1)), (.int y0)]) (I1 := I) (T1 := T) rfl ?_
  refine ev_br (p := y0 = (-1)) (a := 63) (b := 33) (st' := []) inferInstance rfl rfl (fun hb => ?_) (fun hb => ?_)
  · have hq := hq.1 hb
    refine ev_seq 3 (ip' := 66) (loc' := [some (.ref 46), some (.int y0), none]) (st' := [(.int (I 46 4)), (.ref 46)]) (I1 := I) (T1 := T) rfl ?_
    refine ev_callI rfl rfl rfl (fun v1 I1 T1 hq => ?_) (fun x I1 T1 hq => ?_) hq
    · refine ev_seq 1 (ip' := 68) (loc' := [some (.ref 46), some (.int y0), none]) (st' := [(.int 40), (.int v1)]) (I1 := I1) (T1 := T1) rfl ?_
      refine ev_br (p := v1 = 40) (a := 69) (b := 91) (st' := []) inferInstance rfl rfl (fun hb => ?_) (fun hb => ?_)
      · have hq := hq.1 hb
        refine ev_seq 1 (ip' := 70) (loc' := [some (.ref 46), some (.int y0), none]) (st' := [(.ref 46)]) (I1 := I1) (T1 := T1) rfl ?_
        refine ev_callI rfl rfl rfl (fun v2 I2 T2 hq => ?_) (fun x I1 T1 hq => ?_) hq
        · refine ev_br (p := v2 = 0) (a := 72) (b := 73) (st' := []) inferInstance rfl rfl (fun hb => ?_) (fun hb => ?_)
          · have hq := hq.1 hb
            exact ev_ret rfl rfl hq
          · have hq := hq.2 hb
            refine ev_seq 7 (ip' := 80) (loc' := [some (.ref 46), some (.int y0), none]) (st' := [(.ref 46)]) (I1 := m_up I2 46 4 ((I2 46 4) + 1)) (T1 := T2) rfl ?_
            refine ev_callV rfl rfl rfl (fun I3 T3 hq => ?_) (fun x I1 T1 hq => ?_) hq
            · refine ev_seq 2 (ip' := 83) (loc' := [some (.ref 46), some (.int y0), none]) (st' := [(.int 41), (.ref 46)]) (I1 := I3) (T1 := T3) rfl ?_
              refine ev_callV rfl rfl rfl (fun I4 T4 hq => ?_) (fun x I1 T1 hq => ?_) hq
              · refine ev_seq 6 (ip' := 90) (loc' := [some (.ref 46), some (.int y0), none]) (st' := []) (I1 := m_up I4 46 8 ((I4 46 8) - 1)) (T1 := T4) rfl ?_
                exact ev_ret rfl rfl hq
              · exact ⟨by decide, hq⟩
            · exact ⟨by decide, hq⟩
        · exact ⟨by decide, hq⟩
      · have hq := hq.2 hb
        refine ev_seq 1 (ip' := 92) (loc' := [some (.ref 46), some (.int y0), none]) (st' := [(.ref 46)]) (I1 := I1) (T1 := T1) rfl ?_
        refine ev_callI rfl rfl rfl (fun v5 I5 T5 hq => ?_) (fun x I1 T1 hq => ?_) hq
        · refine ev_seq 3 (ip' := 96) (loc' := [some (.ref 46), some (.int y0), some (.int v5)]) (st' := [(.int (-1)), (.int v5)]) (I1 := I5) (T1 := T5) rfl ?_
          refine ev_br (p := v5 = (-1)) (a := 102) (b := 97) (st' := []) inferInstance rfl rfl (fun hb => ?_) (fun hb => ?_)
          · have hq := hq.1 hb
            refine ev_seq 5 (ip' := 107) (loc' := [some (.ref 46), some (.int y0), some (.int v5)]) (st' := [(.int 999), (.int 0), (.ref 46), (.int 0), (.ref 46)]) (I1 := I5) (T1 := T5) rfl ?_
            refine ev_callI rfl rfl rfl (fun v6 I6 T6 hq => ?_) (fun x I1 T1 hq => ?_) hq
            · refine ev_callV rfl rfl rfl (fun I7 T7 hq => ?_) (fun x I1 T1 hq => ?_) hq
              · refine ev_fg [false, false, false] (loc' := [none, none, none]) rfl ?_
                exact s_M_one_109 (T := T7) hq
              · exact ⟨by decide, hq⟩
            · exact ⟨by decide, hq⟩
          · have hq := hq.2 hb
            refine ev_seq 3 (ip' := 100) (loc' := [some (.ref 46), some (.int y0), some (.int v5)]) (st' := [(.int v5), (.int 1), (.ref 46)]) (I1 := I5) (T1 := T5) rfl ?_
            refine ev_callV rfl rfl rfl (fun I8 T8 hq => ?_) (fun x I1 T1 hq => ?_) hq
            · refine ev_seq 1 (ip' := 109) (loc' := [some (.ref 46), some (.int y0), some (.int v5)]) (st' := []) (I1 := I8) (T1 := T8) rfl ?_
              refine ev_fg [false, false, false] (loc' := [none, none, none]) rfl ?_
              exact s_M_one_109 (T := T8) hq
            · exact ⟨by decide, hq⟩
        · exact ⟨by decide, hq⟩
    · exact ⟨by decide, hq⟩
  · have hq := hq.2 hb
    refine ev_seq 1 (ip' := 34) (loc' := [some (.ref 46), some (.int y0), none]) (st' := [(.ref 46)]) (I1 := I) (T1 := T) rfl ?_
    refine ev_callI rfl rfl rfl (fun v9 I9 T9 hq => ?_) (fun x I1 T1 hq => ?_) hq
    · refine ev_br (p := v9 = 0) (a := 36) (b := 37) (st' := []) inferInstance rfl rfl (fun hb => ?_) (fun hb => ?_)
      · have hq := hq.1 hb
        exact ev_ret rfl rfl hq
      · have hq := hq.2 hb
        refine ev_seq 1 (ip' := 38) (loc' := [some (.ref 46), some (.int y0), none]) (st' := [(.ref 46)]) (I1 := I9) (T1 := T9) rfl ?_
        refine ev_callV rfl rfl rfl (fun I10 T10 hq => ?_) (fun x I1 T1 hq => ?_) hq
        · refine ev_seq 2 (ip' := 41) (loc' := [some (.ref 46), some (.int y0), none]) (st' := [(.int 91), (.ref 46)]) (I1 := I10) (T1 := T10) rfl ?_
          refine ev_callV rfl rfl rfl (fun I11 T11 hq => ?_) (fun x I1 T1 hq => ?_) hq
          · refine ev_seq 1 (ip' := 43) (loc' := [some (.ref 46), some (.int y0), none]) (st' := [(.ref 46)]) (I1 := I11) (T1 := T11) rfl ?_
            refine ev_callV rfl rfl rfl (fun I12 T12 hq => ?_) (fun x I1 T1 hq => ?_) hq
            · refine ev_seq 2 (ip' := 46) (loc' := [some (.ref 46), some (.int y0), none]) (st' := [(.int 44), (.ref 46)]) (I1 := I12) (T1 := T12) rfl ?_
              refine ev_callV rfl rfl rfl (fun I13 T13 hq => ?_) (fun x I1 T1 hq => ?_) hq
              · refine ev_seq 1 (ip' := 48) (loc' := [some (.ref 46), some (.int y0), none]) (st' := [(.ref 46)]) (I1 := I13) (T1 := T13) rfl ?_
                refine ev_callV rfl rfl rfl (fun I14 T14 hq => ?_) (fun x I1 T1 hq => ?_) hq
                · refine ev_seq 2 (ip' := 51) (loc' := [some (.ref 46), some (.int y0), none]) (st' := [(.int 93), (.ref 46)]) (I1 := I14) (T1 := T14) rfl ?_
                  refine ev_callV rfl rfl rfl (fun I15 T15 hq => ?_) (fun x I1 T1 hq => ?_) hq
                  · refine ev_seq 3 (ip' := 55) (loc' := [some (.ref 46), some (.int y0), none]) (st' := [(.int 0), (.int y0), (.ref 46)]) (I1 := I15) (T1 := T15) rfl ?_
                    refine ev_callV rfl rfl rfl (fun I16 T16 hq => ?_) (fun x I1 T1 hq => ?_) hq
                    · refine ev_seq 6 (ip' := 62) (loc' := [some (.ref 46), some (.int y0), none]) (st' := []) (I1 := m_up I16 46 8 ((I16 46 8) - 1)) (T1 := T16) rfl ?_
                      exact ev_ret rfl rfl hq
                    · exact ⟨by decide, hq⟩
                  · exact ⟨by decide, hq⟩
                · exact ⟨by decide, hq⟩
              · exact ⟨by decide, hq⟩
            · exact ⟨by decide, hq⟩
          · exact ⟨by decide, hq⟩
        · exact ⟨by decide, hq⟩
    · exact ⟨by decide, hq⟩
def t_M_one_0 (d9 : Nat) (X9 : Nat × (Nat → Int32)) (I : II) (T : TT) (Q : QQ) : Prop := ((I 46 5) = 0 → (ev (d9 + 1, X9) 60 0 [some (.ref 46)] [] I T (KV (fun I1 T1 => ev (d9 + 1, X9) 67 0 [some (.ref 46), some (.int 12), some (.int 5), some (.int 1), some (.int 19), some (.int 20), some (.int 0)] [] I1 T1 (KI (fun v2 I2 T2 => (v2 = 0 → (ev (d9 + 1, X9) 67 0 [some (.ref 46), some (.int 13), some (.int 15), some (.int 19), some (.int 20), some (.int 0), some (.int 0)] [] I2 T2 (KI (fun v3 I3 T3 => (v3 = 0 → (t_M_one_29 d9 X9 I3 T3 Q (-1))) ∧ (¬ (v3 = 0) → (t_M_one_29 d9 X9 I3 T3 Q 8))) (fun x I1 T1 => Q (.inr x) I1 T1)))) ∧ (¬ (v2 = 0) → (t_M_one_29 d9 X9 I2 T2 Q 7))) (fun x I1 T1 => Q (.inr x) I1 T1))) (fun x I1 T1 => Q (.inr x) I1 T1)))) ∧ (¬ ((I 46 5) = 0) → (Q (.inl none) I T))
theorem s_M_one_0 {d9 : Nat} {X9 : Nat × (Nat → Int32)} {I : II} {T : TT} {Q : QQ} (hq : t_M_one_0 d9 X9 I T Q) : ev (d9 + 1, X9) 88 0 [some (.ref 46), none, none] [] I T Q := by
  unfold t_M_one_0 at hq
  refine ev_seq 2 (ip' := 2) (loc' := [some (.ref 46), none, none]) (st' := [(.int (I 46 5))]) (I1 := I) (T1 := T) rfl ?_
  refine ev_br (p := (I 46 5) = 0) (a := 4) (b := 3) (st' := []) inferInstance rfl rfl (fun hb => ?_) (fun hb => ?_)
  · have hq := hq.1 hb
    refine ev_seq 1 (ip' := 5) (loc' := [some (.ref 46), none, none]) (st' := [(.ref 46)]) (I1 := I) (T1 := T) rfl ?_
    refine ev_callV rfl rfl rfl (fun I1 T1 hq => ?_) (fun x I1 T1 hq => ?_) hq
    · refine ev_seq 7 (ip' := 13) (loc' := [some (.ref 46), none, none]) (st' := [(.int 0), (.int 20), (.int 19), (.int 1), (.int 5), (.int 12), (.ref 46)]) (I1 := I1) (T1 := T1) rfl ?_
      refine ev_callI rfl rfl rfl (fun v2 I2 T2 hq => ?_) (fun x I1 T1 hq => ?_) hq
      · refine ev_br (p := v2 = 0) (a := 17) (b := 15) (st' := []) inferInstance rfl rfl (fun hb => ?_) (fun hb => ?_)
        · have hq := hq.1 hb
          refine ev_seq 7 (ip' := 24) (loc' := [some (.ref 46), none, none]) (st' := [(.int 0), (.int 0), (.int 20), (.int 19), (.int 15), (.int 13), (.ref 46)]) (I1 := I2) (T1 := T2) rfl ?_
          refine ev_callI rfl rfl rfl (fun v3 I3 T3 hq => ?_) (fun x I1 T1 hq => ?_) hq
          · refine ev_br (p := v3 = 0) (a := 28) (b := 26) (st' := []) inferInstance rfl rfl (fun hb => ?_) (fun hb => ?_)
            · have hq := hq.1 hb
              refine ev_seq 1 (ip' := 29) (loc' := [some (.ref 46), none, none]) (st' := [(.int (-1))]) (I1 := I3) (T1 := T3) rfl ?_
              exact s_M_one_29 (T := T3) hq
            · have hq := hq.2 hb
              refine ev_seq 2 (ip' := 29) (loc' := [some (.ref 46), none, none]) (st' := [(.int 8)]) (I1 := I3) (T1 := T3) rfl ?_
              exact s_M_one_29 (T := T3) hq
          · exact ⟨by decide, hq⟩
        · have hq := hq.2 hb
          refine ev_seq 2 (ip' := 29) (loc' := [some (.ref 46), none, none]) (st' := [(.int 7)]) (I1 := I2) (T1 := T2) rfl ?_
          exact s_M_one_29 (T := T2) hq
      · exact ⟨by decide, hq⟩
    · exact ⟨by decide, hq⟩
  · have hq := hq.2 hb
    exact ev_ret rfl rfl hq
/-- FeltHarnessModel.ones(I)I -/
def t_M_ones_4 (E : MEnv) (I : II) (T : TT) (Q : QQ) (x0 : Int32) (x1 : Int32) (x2 : Int32) : Prop := (8 ≤ x2 → (Q (.inl (some (.int x1))) I T)) ∧ (¬ (8 ≤ x2) → (ev E 157 4 [some (.int x0), some (.int (x1 + ((x0 >>> (x2 &&& 31)) &&& 1))), some (.int (x2 + 1))] [] I T Q))
theorem s_M_ones_4 {E : MEnv} {I : II} {T : TT} {Q : QQ} {x0 : Int32} {x1 : Int32} {x2 : Int32} (hq : t_M_ones_4 E I T Q x0 x1 x2) : ev E 157 4 [some (.int x0), some (.int x1), some (.int x2)] [] I T Q := by
  unfold t_M_ones_4 at hq
  refine ev_seq 2 (ip' := 6) (loc' := [some (.int x0), some (.int x1), some (.int x2)]) (st' := [(.int 8), (.int x2)]) (I1 := I) (T1 := T) rfl ?_
  refine ev_br (p := 8 ≤ x2) (a := 17) (b := 7) (st' := []) inferInstance rfl rfl (fun hb => ?_) (fun hb => ?_)
  · have hq := hq.1 hb
    refine ev_seq 1 (ip' := 18) (loc' := [some (.int x0), some (.int x1), some (.int x2)]) (st' := [(.int x1)]) (I1 := I) (T1 := T) rfl ?_
    exact ev_ret rfl rfl hq
  · have hq := hq.2 hb
    refine ev_seq 10 (ip' := 4) (loc' := [some (.int x0), some (.int (x1 + ((x0 >>> (x2 &&& 31)) &&& 1))), some (.int (x2 + 1))]) (st' := []) (I1 := I) (T1 := T) rfl ?_
    exact hq
def t_M_ones_0 (E : MEnv) (I : II) (T : TT) (Q : QQ) (x0 : Int32) : Prop := t_M_ones_4 E I T Q x0 0 0
theorem s_M_ones_0 {E : MEnv} {I : II} {T : TT} {Q : QQ} {x0 : Int32} (hq : t_M_ones_0 E I T Q x0) : ev E 157 0 [some (.int x0), none, none] [] I T Q := by
  unfold t_M_ones_0 at hq
  refine ev_seq 4 (ip' := 4) (loc' := [some (.int x0), some (.int 0), some (.int 0)]) (st' := []) (I1 := I) (T1 := T) rfl ?_
  exact s_M_ones_4 (T := T) hq
/-- FeltHarnessModel.open()I -/
def t_M_open_38 (E : MEnv) (I : II) (T : TT) (Q : QQ) (x2 : Int32) (y0 : Int32) (y1 : Int32) : Prop := ev E 293 7 [some (.ref 46), some (.int (y0 ||| y1)), some (.int (x2 + 1))] [] I T Q
theorem s_M_open_38 {E : MEnv} {I : II} {T : TT} {Q : QQ} {x2 : Int32} {y0 : Int32} {y1 : Int32} (hq : t_M_open_38 E I T Q x2 y0 y1) : ev E 293 38 [some (.ref 46), none, some (.int x2)] [(.int y1), (.int y0)] I T Q := by
  unfold t_M_open_38 at hq
  refine ev_seq 4 (ip' := 7) (loc' := [some (.ref 46), some (.int (y0 ||| y1)), some (.int (x2 + 1))]) (st' := []) (I1 := I) (T1 := T) rfl ?_
  exact hq
def t_M_open_37 (E : MEnv) (I : II) (T : TT) (Q : QQ) (x2 : Int32) (y0 : Int32) : Prop := t_M_open_38 E I T Q x2 y0 0
theorem s_M_open_37 {E : MEnv} {I : II} {T : TT} {Q : QQ} {x2 : Int32} {y0 : Int32} (hq : t_M_open_37 E I T Q x2 y0) : ev E 293 37 [some (.ref 46), none, some (.int x2)] [(.int y0)] I T Q := by
  unfold t_M_open_37 at hq
  refine ev_seq 1 (ip' := 38) (loc' := [some (.ref 46), none, some (.int x2)]) (st' := [(.int 0), (.int y0)]) (I1 := I) (T1 := T) rfl ?_
  exact s_M_open_38 (T := T) hq
def t_M_open_7 (E : MEnv) (I : II) (T : TT) (Q : QQ) (x1 : Int32) (x2 : Int32) : Prop := ((I 50 1) ≤ x2 → (Q (.inl (some (.int x1))) I T)) ∧ (¬ ((I 50 1) ≤ x2) → (ev E 152 0 [some (.ref 46), some (.ref 508), none, none] [] I T (KI (fun v1 I1 T1 => (v1 = 0 → (t_M_open_37 E I1 T1 Q x2 x1)) ∧ (¬ (v1 = 0) → (ev E 156 0 [some (.ref 46), some (.ref 508), some (.int 1), none, none, none, none] [] I1 T1 (KI (fun v2 I2 T2 => ev E 164 0 [some (.ref 46), some (.ref 508), none] [] I2 T2 (KI (fun v3 I3 T3 => ev E 165 0 [some (.ref 46), some (.int x2), some (.int v2), some (.int v3)] [] I3 T3 (KI (fun v4 I4 T4 => (v4 = 2 → (t_M_open_38 E I4 T4 Q x2 x1 ((1 : Int32) <<< (x2 &&& 31)))) ∧ (¬ (v4 = 2) → (t_M_open_37 E I4 T4 Q x2 x1))) (fun x I1 T1 => Q (.inr x) I1 T1))) (fun x I1 T1 => Q (.inr x) I1 T1))) (fun x I1 T1 => Q (.inr x) I1 T1))))) (fun x I1 T1 => Q (.inr x) I1 T1))))
theorem s_M_open_7 {E : MEnv} {I : II} {T : TT} {Q : QQ} {x1 : Int32} {x2 : Int32} (hq : t_M_open_7 E I T Q x1 x2) : ev E 293 7 [some (.ref 46), some (.int x1), some (.int x2)] [] I T Q := by
  unfold t_M_open_7 at hq
  refine ev_seq 5 (ip' := 12) (loc' := [some (.ref 46), some (.int x1), some (.int x2)]) (st' := [(.int (I 50 1)), (.int x2)]) (I1 := I) (T1 := T) rfl ?_
  refine ev_br (p := (I 50 1) ≤ x2) (a := 42) (b := 13) (st' := []) inferInstance rfl rfl (fun hb => ?_) (fun hb => ?_)
  · have hq := hq.1 hb
    refine ev_seq 1 (ip' := 43) (loc' := [some (.ref 46), some (.int x1), some (.int x2)]) (st' := [(.int x1)]) (I1 := I) (T1 := T) rfl ?_
    exact ev_ret rfl rfl hq
  · have hq := hq.2 hb
    refine ev_seq 4 (ip' := 17) (loc' := [some (.ref 46), some (.int x1), some (.int x2)]) (st' := [(.ref 508), (.ref 46), (.int x1)]) (I1 := I) (T1 := T) rfl ?_
    refine ev_callI rfl rfl rfl (fun v1 I1 T1 hq => ?_) (fun x I1 T1 hq => ?_) hq
    · refine ev_br (p := v1 = 0) (a := 37) (b := 19) (st' := [(.int x1)]) inferInstance rfl rfl (fun hb => ?_) (fun hb => ?_)
      · have hq := hq.1 hb
        refine ev_fg [true, false, true] (loc' := [some (.ref 46), none, some (.int x2)]) rfl ?_
        exact s_M_open_37 (T := T1) hq
      · have hq := hq.2 hb
        refine ev_seq 6 (ip' := 25) (loc' := [some (.ref 46), some (.int x1), some (.int x2)]) (st' := [(.int 1), (.ref 508), (.ref 46), (.int x2), (.ref 46), (.int x1)]) (I1 := I1) (T1 := T1) rfl ?_
        refine ev_callI rfl rfl rfl (fun v2 I2 T2 hq => ?_) (fun x I1 T1 hq => ?_) hq
        · refine ev_seq 3 (ip' := 29) (loc' := [some (.ref 46), some (.int x1), some (.int x2)]) (st' := [(.ref 508), (.ref 46), (.int v2), (.int x2), (.ref 46), (.int x1)]) (I1 := I2) (T1 := T2) rfl ?_
          refine ev_callI rfl rfl rfl (fun v3 I3 T3 hq => ?_) (fun x I1 T1 hq => ?_) hq
          · refine ev_callI rfl rfl rfl (fun v4 I4 T4 hq => ?_) (fun x I1 T1 hq => ?_) hq
            · refine ev_seq 1 (ip' := 32) (loc' := [some (.ref 46), some (.int x1), some (.int x2)]) (st' := [(.int 2), (.int v4), (.int x1)]) (I1 := I4) (T1 := T4) rfl ?_
              refine ev_br (p := v4 = 2) (a := 33) (b := 37) (st' := [(.int x1)]) inferInstance rfl rfl (fun hb => ?_) (fun hb => ?_)
              · have hq := hq.1 hb
                refine ev_seq 4 (ip' := 38) (loc' := [some (.ref 46), some (.int x1), some (.int x2)]) (st' := [(.int ((1 : Int32) <<< (x2 &&& 31))), (.int x1)]) (I1 := I4) (T1 := T4) rfl ?_
                refine ev_fg [true, false, true] (loc' := [some (.ref 46), none, some (.int x2)]) rfl ?_
                exact s_M_open_38 (T := T4) hq
              · have hq := hq.2 hb
                refine ev_fg [true, false, true] (loc' := [some (.ref 46), none, some (.int x2)]) rfl ?_
                exact s_M_open_37 (T := T4) hq
            · exact ⟨by decide, hq⟩
          · exact ⟨by decide, hq⟩
        · exact ⟨by decide, hq⟩
    · exact ⟨by decide, hq⟩
def t_M_open_0 (E : MEnv) (I : II) (T : TT) (Q : QQ) : Prop := t_M_open_7 E (m_up I 46 0 0) T Q 0 0
theorem s_M_open_0 {E : MEnv} {I : II} {T : TT} {Q : QQ} (hq : t_M_open_0 E I T Q) : ev E 293 0 [some (.ref 46), none, none] [] I T Q := by
  unfold t_M_open_0 at hq
  refine ev_seq 7 (ip' := 7) (loc' := [some (.ref 46), some (.int 0), some (.int 0)]) (st' := []) (I1 := m_up I 46 0 0) (T1 := T) rfl ?_
  exact s_M_open_7 (T := T) hq
/-- FeltHarnessModel.opensOne()Z -/
def t_M_opensOne_28 (E : MEnv) (I : II) (T : TT) (Q : QQ) (y0 : Int32) : Prop := (y0 = 0 ∨ y0 = 1) ∧ Q (.inl (some (.int y0))) I T
theorem s_M_opensOne_28 {E : MEnv} {I : II} {T : TT} {Q : QQ} {y0 : Int32} (hq : t_M_opensOne_28 E I T Q y0) : ev E 89 28 [none] [(.int y0)] I T Q := by
  unfold t_M_opensOne_28 at hq
  exact ev_retb rfl rfl hq.1 hq.2
def t_M_opensOne_22 (E : MEnv) (I : II) (T : TT) (Q : QQ) : Prop := ((I 46 5) = 0 → (t_M_opensOne_28 E I T Q 1)) ∧ (¬ ((I 46 5) = 0) → (t_M_opensOne_28 E I T Q 0))
theorem s_M_opensOne_22 {E : MEnv} {I : II} {T : TT} {Q : QQ} (hq : t_M_opensOne_22 E I T Q) : ev E 89 22 [some (.ref 46)] [] I T Q := by
  unfold t_M_opensOne_22 at hq
  refine ev_seq 2 (ip' := 24) (loc' := [some (.ref 46)]) (st' := [(.int (I 46 5))]) (I1 := I) (T1 := T) rfl ?_
  refine ev_br (p := (I 46 5) = 0) (a := 25) (b := 27) (st' := []) inferInstance rfl rfl (fun hb => ?_) (fun hb => ?_)
  · have hq := hq.1 hb
    refine ev_seq 2 (ip' := 28) (loc' := [some (.ref 46)]) (st' := [(.int 1)]) (I1 := I) (T1 := T) rfl ?_
    refine ev_fg [false] (loc' := [none]) rfl ?_
    exact s_M_opensOne_28 (T := T) hq
  · have hq := hq.2 hb
    refine ev_seq 1 (ip' := 28) (loc' := [some (.ref 46)]) (st' := [(.int 0)]) (I1 := I) (T1 := T) rfl ?_
    refine ev_fg [false] (loc' := [none]) rfl ?_
    exact s_M_opensOne_28 (T := T) hq
def t_M_opensOne_13 (E : MEnv) (I : II) (T : TT) (Q : QQ) : Prop := ((I 46 5) = 0 → (t_M_opensOne_22 E (m_up I 46 8 ((I 46 8) + 1)) T Q )) ∧ (¬ ((I 46 5) = 0) → (t_M_opensOne_22 E I T Q ))
theorem s_M_opensOne_13 {E : MEnv} {I : II} {T : TT} {Q : QQ} (hq : t_M_opensOne_13 E I T Q) : ev E 89 13 [some (.ref 46)] [] I T Q := by
  unfold t_M_opensOne_13 at hq
  refine ev_seq 2 (ip' := 15) (loc' := [some (.ref 46)]) (st' := [(.int (I 46 5))]) (I1 := I) (T1 := T) rfl ?_
  refine ev_br (p := (I 46 5) = 0) (a := 16) (b := 22) (st' := []) inferInstance rfl rfl (fun hb => ?_) (fun hb => ?_)
  · have hq := hq.1 hb
    refine ev_seq 6 (ip' := 22) (loc' := [some (.ref 46)]) (st' := []) (I1 := m_up I 46 8 ((I 46 8) + 1)) (T1 := T) rfl ?_
    exact s_M_opensOne_22 (T := T) hq
  · have hq := hq.2 hb
    exact s_M_opensOne_22 (T := T) hq
def t_M_opensOne_0 (E : MEnv) (I : II) (T : TT) (Q : QQ) : Prop := ((I 46 5) = 0 → (((I 46 8) = 6 → (ev E 69 0 [some (.ref 46), some (.int 3), some (.int (I 46 4))] [] I T (KV (fun I1 T1 => t_M_opensOne_22 E I1 T1 Q ) (fun x I1 T1 => Q (.inr x) I1 T1)))) ∧ (¬ ((I 46 8) = 6) → (t_M_opensOne_13 E I T Q )))) ∧ (¬ ((I 46 5) = 0) → (t_M_opensOne_13 E I T Q ))
theorem s_M_opensOne_0 {E : MEnv} {I : II} {T : TT} {Q : QQ} (hq : t_M_opensOne_0 E I T Q) : ev E 89 0 [some (.ref 46)] [] I T Q := by
  unfold t_M_opensOne_0 at hq
  refine ev_seq 2 (ip' := 2) (loc' := [some (.ref 46)]) (st' := [(.int (I 46 5))]) (I1 := I) (T1 := T) rfl ?_
  refine ev_br (p := (I 46 5) = 0) (a := 3) (b := 13) (st' := []) inferInstance rfl rfl (fun hb => ?_) (fun hb => ?_)
  · have hq := hq.1 hb
    refine ev_seq 3 (ip' := 6) (loc' := [some (.ref 46)]) (st' := [(.int 6), (.int (I 46 8))]) (I1 := I) (T1 := T) rfl ?_
    refine ev_br (p := (I 46 8) = 6) (a := 7) (b := 13) (st' := []) inferInstance rfl rfl (fun hb => ?_) (fun hb => ?_)
    · have hq := hq.1 hb
      refine ev_seq 4 (ip' := 11) (loc' := [some (.ref 46)]) (st' := [(.int (I 46 4)), (.int 3), (.ref 46)]) (I1 := I) (T1 := T) rfl ?_
      refine ev_callV rfl rfl rfl (fun I1 T1 hq => ?_) (fun x I1 T1 hq => ?_) hq
      · refine ev_seq 1 (ip' := 22) (loc' := [some (.ref 46)]) (st' := []) (I1 := I1) (T1 := T1) rfl ?_
        exact s_M_opensOne_22 (T := T1) hq
      · exact ⟨by decide, hq⟩
    · have hq := hq.2 hb
      exact s_M_opensOne_13 (T := T) hq
  · have hq := hq.2 hb
    exact s_M_opensOne_13 (T := T) hq
/-- FeltHarnessModel.pairs(I)I -/
def t_M_pairs_11 (E : MEnv) (I : II) (T : TT) (Q : QQ) (x1 : Int32) (y1 : Int32) : Prop := ev E 58 0 [some (.ref 46), some (.int y1), some (.int 1), some (.int 0)] [] I T (KI (fun v1 I1 T1 => (v1 = 0 → ((¬ x1 < 0 ∧ x1.toNatClampNeg < 8) ∧ (Q (.inl (some (.int (((((1 : Int32) <<< ((I1 50 0) &&& 31)) - 1) &&& ((I1 84 x1.toNatClampNeg) ^^^ (-1))) &&& (((1 : Int32) <<< (x1 &&& 31)) ^^^ (-1)))))) I1 T1))) ∧ (¬ (v1 = 0) → (Q (.inl (some (.int 0))) I1 T1))) (fun x I1 T1 => Q (.inr x) I1 T1))
theorem s_M_pairs_11 {E : MEnv} {I : II} {T : TT} {Q : QQ} {x1 : Int32} {y1 : Int32} (hq : t_M_pairs_11 E I T Q x1 y1) : ev E 307 11 [some (.ref 46), some (.int x1)] [(.int y1), (.ref 46)] I T Q := by
  unfold t_M_pairs_11 at hq
  refine ev_seq 2 (ip' := 13) (loc' := [some (.ref 46), some (.int x1)]) (st' := [(.int 0), (.int 1), (.int y1), (.ref 46)]) (I1 := I) (T1 := T) rfl ?_
  refine ev_callI rfl rfl rfl (fun v1 I1 T1 hq => ?_) (fun x I1 T1 hq => ?_) hq
  · refine ev_br (p := v1 = 0) (a := 17) (b := 15) (st' := []) inferInstance rfl rfl (fun hb => ?_) (fun hb => ?_)
    · have hq := hq.1 hb
      refine ev_seq 11 (ip' := 28) (loc' := [some (.ref 46), some (.int x1)]) (st' := [(.int x1), (.ref 84), (.int (((1 : Int32) <<< ((I1 50 0) &&& 31)) - 1))]) (I1 := I1) (T1 := T1) rfl ?_
      obtain ⟨hg, hq⟩ := hq
      refine ev_iald rfl rfl hg ?_
      refine ev_seq 9 (ip' := 38) (loc' := [some (.ref 46), some (.int x1)]) (st' := [(.int (((((1 : Int32) <<< ((I1 50 0) &&& 31)) - 1) &&& ((I1 84 x1.toNatClampNeg) ^^^ (-1))) &&& (((1 : Int32) <<< (x1 &&& 31)) ^^^ (-1))))]) (I1 := I1) (T1 := T1) rfl ?_
      exact ev_ret rfl rfl hq
    · have hq := hq.2 hb
      refine ev_seq 1 (ip' := 16) (loc' := [some (.ref 46), some (.int x1)]) (st' := [(.int 0)]) (I1 := I1) (T1 := T1) rfl ?_
      exact ev_ret rfl rfl hq
  · exact ⟨by decide, hq⟩
def t_M_pairs_0 (E : MEnv) (I : II) (T : TT) (Q : QQ) (x1 : Int32) : Prop := ev E 190 0 [some (.ref 46), some (.int x1)] [] (m_up I 46 0 0) T (KI (fun v1 I1 T1 => (v1 = 0 → (t_M_pairs_11 E I1 T1 Q x1 1)) ∧ (¬ (v1 = 0) → (t_M_pairs_11 E I1 T1 Q x1 0))) (fun x I1 T1 => Q (.inr x) I1 T1))
theorem s_M_pairs_0 {E : MEnv} {I : II} {T : TT} {Q : QQ} {x1 : Int32} (hq : t_M_pairs_0 E I T Q x1) : ev E 307 0 [some (.ref 46), some (.int x1)] [] I T Q := by
  unfold t_M_pairs_0 at hq
  refine ev_seq 6 (ip' := 6) (loc' := [some (.ref 46), some (.int x1)]) (st' := [(.int x1), (.ref 46), (.ref 46)]) (I1 := m_up I 46 0 0) (T1 := T) rfl ?_
  refine ev_callI rfl rfl rfl (fun v1 I1 T1 hq => ?_) (fun x I1 T1 hq => ?_) hq
  · refine ev_br (p := v1 = 0) (a := 8) (b := 10) (st' := [(.ref 46)]) inferInstance rfl rfl (fun hb => ?_) (fun hb => ?_)
    · have hq := hq.1 hb
      refine ev_seq 2 (ip' := 11) (loc' := [some (.ref 46), some (.int x1)]) (st' := [(.int 1), (.ref 46)]) (I1 := I1) (T1 := T1) rfl ?_
      exact s_M_pairs_11 (T := T1) hq
    · have hq := hq.2 hb
      refine ev_seq 1 (ip' := 11) (loc' := [some (.ref 46), some (.int x1)]) (st' := [(.int 0), (.ref 46)]) (I1 := I1) (T1 := T1) rfl ?_
      exact s_M_pairs_11 (T := T1) hq
  · exact ⟨by decide, hq⟩
/-- FeltHarnessModel.places(IIII)V -/
def t_M_places_44 (d9 : Nat) (X9 : Nat × (Nat → Int32)) (I : II) (T : TT) (Q : QQ) (x1 : Int32) (x2 : Int32) (x3 : Int32) (x4 : Int32) (x5 : Int32) : Prop := ev (d9 + 1, X9) 226 9 [some (.ref 46), some (.int x1), some (.int x2), some (.int x3), some (.int x4), some (.int (x5 + 1))] [] I T Q
theorem s_M_places_44 {d9 : Nat} {X9 : Nat × (Nat → Int32)} {I : II} {T : TT} {Q : QQ} {x1 : Int32} {x2 : Int32} {x3 : Int32} {x4 : Int32} {x5 : Int32} (hq : t_M_places_44 d9 X9 I T Q x1 x2 x3 x4 x5) : ev (d9 + 1, X9) 226 44 [some (.ref 46), some (.int x1), some (.int x2), some (.int x3), some (.int x4), some (.int x5)] [] I T Q := by
  unfold t_M_places_44 at hq
  refine ev_seq 2 (ip' := 9) (loc' := [some (.ref 46), some (.int x1), some (.int x2), some (.int x3), some (.int x4), some (.int (x5 + 1))]) (st' := []) (I1 := I) (T1 := T) rfl ?_
  exact hq
def t_M_places_9 (d9 : Nat) (X9 : Nat × (Nat → Int32)) (I : II) (T : TT) (Q : QQ) (x1 : Int32) (x2 : Int32) (x3 : Int32) (x4 : Int32) (x5 : Int32) : Prop := ((I 50 0) ≤ x5 → ((¬ x2 < 0 ∧ x2.toNatClampNeg < 4) ∧ (ev (d9, X9) 226 0 [some (.ref 46), some (.int x1), some (.int (x2 + 1)), some (.int x3), some (.int x4), none] [] (m_up I 531 x2.toNatClampNeg (-1)) T (KV (fun I1 T1 => Q (.inl none) I1 T1) (fun x I1 T1 => Q (.inr x) I1 T1))))) ∧ (¬ ((I 50 0) ≤ x5) → (ev (d9 + 1, X9) 166 0 [some (.int (x3 ||| x4)), some (.int x5)] [] I T (KI (fun v2 I2 T2 => (v2 = 0 → ((¬ x2 < 0 ∧ x2.toNatClampNeg < 4) ∧ ((¬ x5 < 0 ∧ x5.toNatClampNeg < 8) ∧ (ev (d9, X9) 226 0 [some (.ref 46), some (.int x1), some (.int (x2 + 1)), some (.int (x3 ||| ((1 : Int32) <<< (x5 &&& 31)))), some (.int (x4 ||| ((m_up I2 531 x2.toNatClampNeg x5) 84 x5.toNatClampNeg))), none] [] (m_up I2 531 x2.toNatClampNeg x5) T2 (KV (fun I3 T3 => t_M_places_44 d9 X9 I3 T3 Q x1 x2 x3 x4 x5) (fun x I1 T1 => Q (.inr x) I1 T1)))))) ∧ (¬ (v2 = 0) → (t_M_places_44 d9 X9 I2 T2 Q x1 x2 x3 x4 x5))) (fun _ _ _ => False))))
theorem s_M_places_9 {d9 : Nat} {X9 : Nat × (Nat → Int32)} {I : II} {T : TT} {Q : QQ} {x1 : Int32} {x2 : Int32} {x3 : Int32} {x4 : Int32} {x5 : Int32} (hq : t_M_places_9 d9 X9 I T Q x1 x2 x3 x4 x5) : ev (d9 + 1, X9) 226 9 [some (.ref 46), some (.int x1), some (.int x2), some (.int x3), some (.int x4), some (.int x5)] [] I T Q := by
  unfold t_M_places_9 at hq
  refine ev_seq 5 (ip' := 14) (loc' := [some (.ref 46), some (.int x1), some (.int x2), some (.int x3), some (.int x4), some (.int x5)]) (st' := [(.int (I 50 0)), (.int x5)]) (I1 := I) (T1 := T) rfl ?_
  refine ev_br (p := (I 50 0) ≤ x5) (a := 46) (b := 15) (st' := []) inferInstance rfl rfl (fun hb => ?_) (fun hb => ?_)
  · have hq := hq.1 hb
    refine ev_seq 4 (ip' := 50) (loc' := [some (.ref 46), some (.int x1), some (.int x2), some (.int x3), some (.int x4), some (.int x5)]) (st' := [(.int (-1)), (.int x2), (.ref 531)]) (I1 := I) (T1 := T) rfl ?_
    obtain ⟨hg, hq⟩ := hq
    refine ev_iast rfl rfl hg ?_
    refine ev_seq 7 (ip' := 58) (loc' := [some (.ref 46), some (.int x1), some (.int x2), some (.int x3), some (.int x4), some (.int x5)]) (st' := [(.int x4), (.int x3), (.int (x2 + 1)), (.int x1), (.ref 46)]) (I1 := m_up I 531 x2.toNatClampNeg (-1)) (T1 := T) rfl ?_
    refine ev_callV rfl rfl rfl (fun I1 T1 hq => ?_) (fun x I1 T1 hq => ?_) hq
    · exact ev_ret rfl rfl hq
    · exact ⟨by decide, hq⟩
  · have hq := hq.2 hb
    refine ev_seq 4 (ip' := 19) (loc' := [some (.ref 46), some (.int x1), some (.int x2), some (.int x3), some (.int x4), some (.int x5)]) (st' := [(.int x5), (.int (x3 ||| x4))]) (I1 := I) (T1 := T) rfl ?_
    refine ev_callI rfl rfl rfl (fun v2 I2 T2 hq => ?_) (fun x I1 T1 hq => ?_) hq
    · refine ev_br (p := v2 = 0) (a := 22) (b := 21) (st' := []) inferInstance rfl rfl (fun hb => ?_) (fun hb => ?_)
      · have hq := hq.1 hb
        refine ev_seq 4 (ip' := 26) (loc' := [some (.ref 46), some (.int x1), some (.int x2), some (.int x3), some (.int x4), some (.int x5)]) (st' := [(.int x5), (.int x2), (.ref 531)]) (I1 := I2) (T1 := T2) rfl ?_
        obtain ⟨hg, hq⟩ := hq
        refine ev_iast rfl rfl hg ?_
        refine ev_seq 14 (ip' := 41) (loc' := [some (.ref 46), some (.int x1), some (.int x2), some (.int x3), some (.int x4), some (.int x5)]) (st' := [(.int x5), (.ref 84), (.int x4), (.int (x3 ||| ((1 : Int32) <<< (x5 &&& 31)))), (.int (x2 + 1)), (.int x1), (.ref 46)]) (I1 := m_up I2 531 x2.toNatClampNeg x5) (T1 := T2) rfl ?_
        obtain ⟨hg, hq⟩ := hq
        refine ev_iald rfl rfl hg ?_
        refine ev_seq 1 (ip' := 43) (loc' := [some (.ref 46), some (.int x1), some (.int x2), some (.int x3), some (.int x4), some (.int x5)]) (st' := [(.int (x4 ||| ((m_up I2 531 x2.toNatClampNeg x5) 84 x5.toNatClampNeg))), (.int (x3 ||| ((1 : Int32) <<< (x5 &&& 31)))), (.int (x2 + 1)), (.int x1), (.ref 46)]) (I1 := m_up I2 531 x2.toNatClampNeg x5) (T1 := T2) rfl ?_
        refine ev_callV rfl rfl rfl (fun I3 T3 hq => ?_) (fun x I1 T1 hq => ?_) hq
        · exact s_M_places_44 (T := T3) hq
        · exact ⟨by decide, hq⟩
      · have hq := hq.2 hb
        refine ev_seq 1 (ip' := 44) (loc' := [some (.ref 46), some (.int x1), some (.int x2), some (.int x3), some (.int x4), some (.int x5)]) (st' := []) (I1 := I2) (T1 := T2) rfl ?_
        exact s_M_places_44 (T := T2) hq
    · exact hq.elim
def t_M_places_0 (d9 : Nat) (X9 : Nat × (Nat → Int32)) (I : II) (T : TT) (Q : QQ) (x1 : Int32) (x2 : Int32) (x3 : Int32) (x4 : Int32) : Prop := (x2 = 4 → (ev (d9 + 1, X9) 227 0 [some (.ref 46), some (.int x1), none, none, none, none, none] [] I T (KV (fun I1 T1 => Q (.inl none) I1 T1) (fun x I1 T1 => Q (.inr x) I1 T1)))) ∧ (¬ (x2 = 4) → (t_M_places_9 d9 X9 I T Q x1 x2 x3 x4 0))
theorem s_M_places_0 {d9 : Nat} {X9 : Nat × (Nat → Int32)} {I : II} {T : TT} {Q : QQ} {x1 : Int32} {x2 : Int32} {x3 : Int32} {x4 : Int32} (hq : t_M_places_0 d9 X9 I T Q x1 x2 x3 x4) : ev (d9 + 1, X9) 226 0 [some (.ref 46), some (.int x1), some (.int x2), some (.int x3), some (.int x4), none] [] I T Q := by
  unfold t_M_places_0 at hq
  refine ev_seq 2 (ip' := 2) (loc' := [some (.ref 46), some (.int x1), some (.int x2), some (.int x3), some (.int x4), none]) (st' := [(.int 4), (.int x2)]) (I1 := I) (T1 := T) rfl ?_
  refine ev_br (p := x2 = 4) (a := 3) (b := 7) (st' := []) inferInstance rfl rfl (fun hb => ?_) (fun hb => ?_)
  · have hq := hq.1 hb
    refine ev_seq 2 (ip' := 5) (loc' := [some (.ref 46), some (.int x1), some (.int x2), some (.int x3), some (.int x4), none]) (st' := [(.int x1), (.ref 46)]) (I1 := I) (T1 := T) rfl ?_
    refine ev_callV rfl rfl rfl (fun I1 T1 hq => ?_) (fun x I1 T1 hq => ?_) hq
    · exact ev_ret rfl rfl hq
    · exact ⟨by decide, hq⟩
  · have hq := hq.2 hb
    refine ev_seq 2 (ip' := 9) (loc' := [some (.ref 46), some (.int x1), some (.int x2), some (.int x3), some (.int x4), some (.int 0)]) (st' := []) (I1 := I) (T1 := T) rfl ?_
    exact s_M_places_9 (T := T) hq
/-- FeltHarnessModel.product()V -/
def t_M_product_24 (E : MEnv) (I : II) (T : TT) (Q : QQ) (y0 : Int32) : Prop := (y0 = (-1) → (Q (.inl none) I T)) ∧ (¬ (y0 = (-1)) → (ev E 88 0 [some (.ref 46), none, none] [] I T (KV (fun I1 T1 => ev E 90 0 [some (.ref 46), some (.int y0), some (.int 0)] [] I1 T1 (KV (fun I2 T2 => ev E 87 2 [some (.ref 46), none] [] I2 T2 Q) (fun x I1 T1 => Q (.inr x) I1 T1))) (fun x I1 T1 => Q (.inr x) I1 T1))))
theorem s_M_product_24 {E : MEnv} {I : II} {T : TT} {Q : QQ} {y0 : Int32} (hq : t_M_product_24 E I T Q y0) : ev E 87 24 [some (.ref 46), none] [(.int y0)] I T Q := by
  unfold t_M_product_24 at hq
  refine ev_seq 3 (ip' := 27) (loc' := [some (.ref 46), some (.int y0)]) (st' := [(.int (-1)), (.int y0)]) (I1 := I) (T1 := T) rfl ?_
  refine ev_br (p := y0 = (-1)) (a := 28) (b := 29) (st' := []) inferInstance rfl rfl (fun hb => ?_) (fun hb => ?_)
  · have hq := hq.1 hb
    exact ev_ret rfl rfl hq
  · have hq := hq.2 hb
    refine ev_seq 1 (ip' := 30) (loc' := [some (.ref 46), some (.int y0)]) (st' := [(.ref 46)]) (I1 := I) (T1 := T) rfl ?_
    refine ev_callV rfl rfl rfl (fun I1 T1 hq => ?_) (fun x I1 T1 hq => ?_) hq
    · refine ev_seq 3 (ip' := 34) (loc' := [some (.ref 46), some (.int y0)]) (st' := [(.int 0), (.int y0), (.ref 46)]) (I1 := I1) (T1 := T1) rfl ?_
      refine ev_callV rfl rfl rfl (fun I2 T2 hq => ?_) (fun x I1 T1 hq => ?_) hq
      · refine ev_seq 1 (ip' := 2) (loc' := [some (.ref 46), some (.int y0)]) (st' := []) (I1 := I2) (T1 := T2) rfl ?_
        refine ev_fg [true, false] (loc' := [some (.ref 46), none]) rfl ?_
        exact hq
      · exact ⟨by decide, hq⟩
    · exact ⟨by decide, hq⟩
def t_M_product_2 (E : MEnv) (I : II) (T : TT) (Q : QQ) : Prop := ((I 46 5) = 0 → (ev E 93 0 [some (.ref 46), some (.int 42), none] [] I T (KI (fun v1 I1 T1 => (v1 = 0 → (ev E 93 0 [some (.ref 46), some (.int 47), none] [] I1 T1 (KI (fun v2 I2 T2 => (v2 = 0 → (ev E 93 0 [some (.ref 46), some (.int 37), none] [] I2 T2 (KI (fun v3 I3 T3 => (v3 = 0 → (t_M_product_24 E I3 T3 Q (-1))) ∧ (¬ (v3 = 0) → (t_M_product_24 E I3 T3 Q 6))) (fun x I1 T1 => Q (.inr x) I1 T1)))) ∧ (¬ (v2 = 0) → (t_M_product_24 E I2 T2 Q 5))) (fun x I1 T1 => Q (.inr x) I1 T1)))) ∧ (¬ (v1 = 0) → (t_M_product_24 E I1 T1 Q 4))) (fun x I1 T1 => Q (.inr x) I1 T1)))) ∧ (¬ ((I 46 5) = 0) → (Q (.inl none) I T))
theorem s_M_product_2 {E : MEnv} {I : II} {T : TT} {Q : QQ} (hq : t_M_product_2 E I T Q) : ev E 87 2 [some (.ref 46), none] [] I T Q := by
  unfold t_M_product_2 at hq
  refine ev_seq 2 (ip' := 4) (loc' := [some (.ref 46), none]) (st' := [(.int (I 46 5))]) (I1 := I) (T1 := T) rfl ?_
  refine ev_br (p := (I 46 5) = 0) (a := 5) (b := 36) (st' := []) inferInstance rfl rfl (fun hb => ?_) (fun hb => ?_)
  · have hq := hq.1 hb
    refine ev_seq 2 (ip' := 7) (loc' := [some (.ref 46), none]) (st' := [(.int 42), (.ref 46)]) (I1 := I) (T1 := T) rfl ?_
    refine ev_callI rfl rfl rfl (fun v1 I1 T1 hq => ?_) (fun x I1 T1 hq => ?_) hq
    · refine ev_br (p := v1 = 0) (a := 11) (b := 9) (st' := []) inferInstance rfl rfl (fun hb => ?_) (fun hb => ?_)
      · have hq := hq.1 hb
        refine ev_seq 2 (ip' := 13) (loc' := [some (.ref 46), none]) (st' := [(.int 47), (.ref 46)]) (I1 := I1) (T1 := T1) rfl ?_
        refine ev_callI rfl rfl rfl (fun v2 I2 T2 hq => ?_) (fun x I1 T1 hq => ?_) hq
        · refine ev_br (p := v2 = 0) (a := 17) (b := 15) (st' := []) inferInstance rfl rfl (fun hb => ?_) (fun hb => ?_)
          · have hq := hq.1 hb
            refine ev_seq 2 (ip' := 19) (loc' := [some (.ref 46), none]) (st' := [(.int 37), (.ref 46)]) (I1 := I2) (T1 := T2) rfl ?_
            refine ev_callI rfl rfl rfl (fun v3 I3 T3 hq => ?_) (fun x I1 T1 hq => ?_) hq
            · refine ev_br (p := v3 = 0) (a := 23) (b := 21) (st' := []) inferInstance rfl rfl (fun hb => ?_) (fun hb => ?_)
              · have hq := hq.1 hb
                refine ev_seq 1 (ip' := 24) (loc' := [some (.ref 46), none]) (st' := [(.int (-1))]) (I1 := I3) (T1 := T3) rfl ?_
                exact s_M_product_24 (T := T3) hq
              · have hq := hq.2 hb
                refine ev_seq 2 (ip' := 24) (loc' := [some (.ref 46), none]) (st' := [(.int 6)]) (I1 := I3) (T1 := T3) rfl ?_
                exact s_M_product_24 (T := T3) hq
            · exact ⟨by decide, hq⟩
          · have hq := hq.2 hb
            refine ev_seq 2 (ip' := 24) (loc' := [some (.ref 46), none]) (st' := [(.int 5)]) (I1 := I2) (T1 := T2) rfl ?_
            exact s_M_product_24 (T := T2) hq
        · exact ⟨by decide, hq⟩
      · have hq := hq.2 hb
        refine ev_seq 2 (ip' := 24) (loc' := [some (.ref 46), none]) (st' := [(.int 4)]) (I1 := I1) (T1 := T1) rfl ?_
        exact s_M_product_24 (T := T1) hq
    · exact ⟨by decide, hq⟩
  · have hq := hq.2 hb
    exact ev_ret rfl rfl hq
def t_M_product_0 (E : MEnv) (I : II) (T : TT) (Q : QQ) : Prop := ev E 88 0 [some (.ref 46), none, none] [] I T (KV (fun I1 T1 => t_M_product_2 E I1 T1 Q ) (fun x I1 T1 => Q (.inr x) I1 T1))
theorem s_M_product_0 {E : MEnv} {I : II} {T : TT} {Q : QQ} (hq : t_M_product_0 E I T Q) : ev E 87 0 [some (.ref 46), none] [] I T Q := by
  unfold t_M_product_0 at hq
  refine ev_seq 1 (ip' := 1) (loc' := [some (.ref 46), none]) (st' := [(.ref 46)]) (I1 := I) (T1 := T) rfl ?_
  refine ev_callV rfl rfl rfl (fun I1 T1 hq => ?_) (fun x I1 T1 hq => ?_) hq
  · exact s_M_product_2 (T := T1) hq
  · exact ⟨by decide, hq⟩
/-- FeltHarnessModel.pulls([IZ)I -/
def t_M_pulls_508_48 (E : MEnv) (I : II) (T : TT) (Q : QQ) (x2 : Int32) (x3 : Int32) (x4 : Int32) (x5 : Int32) : Prop := ev E 156 9 [some (.ref 46), some (.ref 508), some (.int x2), some (.int x3), some (.int x4), some (.int (x5 + 1)), none] [] I T Q
theorem s_M_pulls_508_48 {E : MEnv} {I : II} {T : TT} {Q : QQ} {x2 : Int32} {x3 : Int32} {x4 : Int32} {x5 : Int32} (hq : t_M_pulls_508_48 E I T Q x2 x3 x4 x5) : ev E 156 48 [some (.ref 46), some (.ref 508), some (.int x2), some (.int x3), some (.int x4), some (.int x5), none] [] I T Q := by
  unfold t_M_pulls_508_48 at hq
  refine ev_seq 2 (ip' := 9) (loc' := [some (.ref 46), some (.ref 508), some (.int x2), some (.int x3), some (.int x4), some (.int (x5 + 1)), none]) (st' := []) (I1 := I) (T1 := T) rfl ?_
  exact hq
def t_M_pulls_508_46 (E : MEnv) (I : II) (T : TT) (Q : QQ) (x2 : Int32) (x4 : Int32) (x5 : Int32) (y0 : Int32) (y1 : Int32) : Prop := t_M_pulls_508_48 E I T Q x2 (y0 + y1) x4 x5
theorem s_M_pulls_508_46 {E : MEnv} {I : II} {T : TT} {Q : QQ} {x2 : Int32} {x4 : Int32} {x5 : Int32} {y0 : Int32} {y1 : Int32} (hq : t_M_pulls_508_46 E I T Q x2 x4 x5 y0 y1) : ev E 156 46 [some (.ref 46), some (.ref 508), some (.int x2), none, some (.int x4), some (.int x5), none] [(.int y1), (.int y0)] I T Q := by
  unfold t_M_pulls_508_46 at hq
  refine ev_seq 2 (ip' := 48) (loc' := [some (.ref 46), some (.ref 508), some (.int x2), some (.int (y0 + y1)), some (.int x4), some (.int x5), none]) (st' := []) (I1 := I) (T1 := T) rfl ?_
  exact s_M_pulls_508_48 (T := T) hq
def t_M_pulls_508_32 (E : MEnv) (I : II) (T : TT) (Q : QQ) (x2 : Int32) (x4 : Int32) (x5 : Int32) (x6 : Int32) (y0 : Int32) : Prop := ev E 158 0 [some (.ref 46), some (.ref 508), some (.int x5), some (.int x6), some (.int x4)] [] I T (KI (fun v1 I1 T1 => t_M_pulls_508_46 E I1 T1 Q x2 x4 x5 y0 v1) (fun x I1 T1 => Q (.inr x) I1 T1))
theorem s_M_pulls_508_32 {E : MEnv} {I : II} {T : TT} {Q : QQ} {x2 : Int32} {x4 : Int32} {x5 : Int32} {x6 : Int32} {y0 : Int32} (hq : t_M_pulls_508_32 E I T Q x2 x4 x5 x6 y0) : ev E 156 32 [some (.ref 46), some (.ref 508), some (.int x2), none, some (.int x4), some (.int x5), some (.int x6)] [(.int y0)] I T Q := by
  unfold t_M_pulls_508_32 at hq
  refine ev_seq 5 (ip' := 37) (loc' := [some (.ref 46), some (.ref 508), some (.int x2), none, some (.int x4), some (.int x5), some (.int x6)]) (st' := [(.int x4), (.int x6), (.int x5), (.ref 508), (.ref 46), (.int y0)]) (I1 := I) (T1 := T) rfl ?_
  refine ev_callI rfl rfl rfl (fun v1 I1 T1 hq => ?_) (fun x I1 T1 hq => ?_) hq
  · refine ev_seq 1 (ip' := 46) (loc' := [some (.ref 46), some (.ref 508), some (.int x2), none, some (.int x4), some (.int x5), some (.int x6)]) (st' := [(.int v1), (.int y0)]) (I1 := I1) (T1 := T1) rfl ?_
    refine ev_fg [true, true, true, true, true, true, false] (loc' := [some (.ref 46), some (.ref 508), some (.int x2), none, some (.int x4), some (.int x5), none]) rfl ?_
    exact s_M_pulls_508_46 (T := T1) hq
  · exact ⟨by decide, hq⟩
def t_M_pulls_508_9 (E : MEnv) (I : II) (T : TT) (Q : QQ) (x2 : Int32) (x3 : Int32) (x4 : Int32) (x5 : Int32) : Prop := ((I 50 0) ≤ x5 → (Q (.inl (some (.int x3))) I T)) ∧ (¬ ((I 50 0) ≤ x5) → ((¬ (0 + x5) < 0 ∧ (0 + x5).toNatClampNeg < 29) ∧ (((I 508 (0 + x5).toNatClampNeg) = (-1) → (t_M_pulls_508_48 E I T Q x2 x3 x4 x5)) ∧ (¬ ((I 508 (0 + x5).toNatClampNeg) = (-1)) → ((x2 = 0 → ((((I 508 (0 + x5).toNatClampNeg) - (I 508 (0 + x5).toNatClampNeg) / 2 * 2) = 0 → (t_M_pulls_508_32 E I T Q x2 x4 x5 (I 508 (0 + x5).toNatClampNeg) x3)) ∧ (¬ (((I 508 (0 + x5).toNatClampNeg) - (I 508 (0 + x5).toNatClampNeg) / 2 * 2) = 0) → (ev E 158 0 [some (.ref 46), some (.ref 508), some (.int x5), some (.int (I 508 (0 + x5).toNatClampNeg)), some (.int x4)] [] I T (KI (fun v1 I1 T1 => t_M_pulls_508_46 E I1 T1 Q x2 x4 x5 x3 (0 - v1)) (fun x I1 T1 => Q (.inr x) I1 T1)))))) ∧ (¬ (x2 = 0) → (t_M_pulls_508_32 E I T Q x2 x4 x5 (I 508 (0 + x5).toNatClampNeg) x3)))))))
theorem s_M_pulls_508_9 {E : MEnv} {I : II} {T : TT} {Q : QQ} {x2 : Int32} {x3 : Int32} {x4 : Int32} {x5 : Int32} (hq : t_M_pulls_508_9 E I T Q x2 x3 x4 x5) : ev E 156 9 [some (.ref 46), some (.ref 508), some (.int x2), some (.int x3), some (.int x4), some (.int x5), none] [] I T Q := by
  unfold t_M_pulls_508_9 at hq
  refine ev_seq 5 (ip' := 14) (loc' := [some (.ref 46), some (.ref 508), some (.int x2), some (.int x3), some (.int x4), some (.int x5), none]) (st' := [(.int (I 50 0)), (.int x5)]) (I1 := I) (T1 := T) rfl ?_
  refine ev_br (p := (I 50 0) ≤ x5) (a := 50) (b := 15) (st' := []) inferInstance rfl rfl (fun hb => ?_) (fun hb => ?_)
  · have hq := hq.1 hb
    refine ev_seq 1 (ip' := 51) (loc' := [some (.ref 46), some (.ref 508), some (.int x2), some (.int x3), some (.int x4), some (.int x5), none]) (st' := [(.int x3)]) (I1 := I) (T1 := T) rfl ?_
    exact ev_ret rfl rfl hq
  · have hq := hq.2 hb
    refine ev_seq 4 (ip' := 19) (loc' := [some (.ref 46), some (.ref 508), some (.int x2), some (.int x3), some (.int x4), some (.int x5), none]) (st' := [(.int (0 + x5)), (.ref 508)]) (I1 := I) (T1 := T) rfl ?_
    obtain ⟨hg, hq⟩ := hq
    refine ev_iald rfl rfl hg ?_
    refine ev_seq 3 (ip' := 23) (loc' := [some (.ref 46), some (.ref 508), some (.int x2), some (.int x3), some (.int x4), some (.int x5), some (.int (I 508 (0 + x5).toNatClampNeg))]) (st' := [(.int (-1)), (.int (I 508 (0 + x5).toNatClampNeg))]) (I1 := I) (T1 := T) rfl ?_
    refine ev_br (p := (I 508 (0 + x5).toNatClampNeg) = (-1)) (a := 24) (b := 25) (st' := []) inferInstance rfl rfl (fun hb => ?_) (fun hb => ?_)
    · have hq := hq.1 hb
      refine ev_seq 1 (ip' := 48) (loc' := [some (.ref 46), some (.ref 508), some (.int x2), some (.int x3), some (.int x4), some (.int x5), some (.int (I 508 (0 + x5).toNatClampNeg))]) (st' := []) (I1 := I) (T1 := T) rfl ?_
      refine ev_fg [true, true, true, true, true, true, false] (loc' := [some (.ref 46), some (.ref 508), some (.int x2), some (.int x3), some (.int x4), some (.int x5), none]) rfl ?_
      exact s_M_pulls_508_48 (T := T) hq
    · have hq := hq.2 hb
      refine ev_seq 2 (ip' := 27) (loc' := [some (.ref 46), some (.ref 508), some (.int x2), some (.int x3), some (.int x4), some (.int x5), some (.int (I 508 (0 + x5).toNatClampNeg))]) (st' := [(.int x2), (.int x3)]) (I1 := I) (T1 := T) rfl ?_
      refine ev_br (p := x2 = 0) (a := 28) (b := 32) (st' := [(.int x3)]) inferInstance rfl rfl (fun hb => ?_) (fun hb => ?_)
      · have hq := hq.1 hb
        refine ev_seq 3 (ip' := 31) (loc' := [some (.ref 46), some (.ref 508), some (.int x2), some (.int x3), some (.int x4), some (.int x5), some (.int (I 508 (0 + x5).toNatClampNeg))]) (st' := [(.int ((I 508 (0 + x5).toNatClampNeg) - (I 508 (0 + x5).toNatClampNeg) / 2 * 2)), (.int x3)]) (I1 := I) (T1 := T) rfl ?_
        refine ev_br (p := ((I 508 (0 + x5).toNatClampNeg) - (I 508 (0 + x5).toNatClampNeg) / 2 * 2) = 0) (a := 32) (b := 39) (st' := [(.int x3)]) inferInstance rfl rfl (fun hb => ?_) (fun hb => ?_)
        · have hq := hq.1 hb
          refine ev_fg [true, true, true, false, true, true, true] (loc' := [some (.ref 46), some (.ref 508), some (.int x2), none, some (.int x4), some (.int x5), some (.int (I 508 (0 + x5).toNatClampNeg))]) rfl ?_
          exact s_M_pulls_508_32 (T := T) hq
        · have hq := hq.2 hb
          refine ev_seq 5 (ip' := 44) (loc' := [some (.ref 46), some (.ref 508), some (.int x2), some (.int x3), some (.int x4), some (.int x5), some (.int (I 508 (0 + x5).toNatClampNeg))]) (st' := [(.int x4), (.int (I 508 (0 + x5).toNatClampNeg)), (.int x5), (.ref 508), (.ref 46), (.int x3)]) (I1 := I) (T1 := T) rfl ?_
          refine ev_callI rfl rfl rfl (fun v1 I1 T1 hq => ?_) (fun x I1 T1 hq => ?_) hq
          · refine ev_seq 1 (ip' := 46) (loc' := [some (.ref 46), some (.ref 508), some (.int x2), some (.int x3), some (.int x4), some (.int x5), some (.int (I 508 (0 + x5).toNatClampNeg))]) (st' := [(.int (0 - v1)), (.int x3)]) (I1 := I1) (T1 := T1) rfl ?_
            refine ev_fg [true, true, true, false, true, true, false] (loc' := [some (.ref 46), some (.ref 508), some (.int x2), none, some (.int x4), some (.int x5), none]) rfl ?_
            exact s_M_pulls_508_46 (T := T1) hq
          · exact ⟨by decide, hq⟩
      · have hq := hq.2 hb
        refine ev_fg [true, true, true, false, true, true, true] (loc' := [some (.ref 46), some (.ref 508), some (.int x2), none, some (.int x4), some (.int x5), some (.int (I 508 (0 + x5).toNatClampNeg))]) rfl ?_
        exact s_M_pulls_508_32 (T := T) hq
def t_M_pulls_508_0 (E : MEnv) (I : II) (T : TT) (Q : QQ) (x2 : Int32) : Prop := ev E 152 0 [some (.ref 46), some (.ref 508), none, none] [] I T (KI (fun v1 I1 T1 => ev E 157 0 [some (.int v1), none, none] [] I1 T1 (KI (fun v2 I2 T2 => t_M_pulls_508_9 E I2 T2 Q x2 0 v2 0) (fun _ _ _ => False))) (fun x I1 T1 => Q (.inr x) I1 T1))
theorem s_M_pulls_508_0 {E : MEnv} {I : II} {T : TT} {Q : QQ} {x2 : Int32} (hq : t_M_pulls_508_0 E I T Q x2) : ev E 156 0 [some (.ref 46), some (.ref 508), some (.int x2), none, none, none, none] [] I T Q := by
  unfold t_M_pulls_508_0 at hq
  refine ev_seq 4 (ip' := 4) (loc' := [some (.ref 46), some (.ref 508), some (.int x2), some (.int 0), none, none, none]) (st' := [(.ref 508), (.ref 46)]) (I1 := I) (T1 := T) rfl ?_
  refine ev_callI rfl rfl rfl (fun v1 I1 T1 hq => ?_) (fun x I1 T1 hq => ?_) hq
  · refine ev_callI rfl rfl rfl (fun v2 I2 T2 hq => ?_) (fun x I1 T1 hq => ?_) hq
    · refine ev_seq 3 (ip' := 9) (loc' := [some (.ref 46), some (.ref 508), some (.int x2), some (.int 0), some (.int v2), some (.int 0), none]) (st' := []) (I1 := I2) (T1 := T2) rfl ?_
      exact s_M_pulls_508_9 (T := T2) hq
    · exact hq.elim
  · exact ⟨by decide, hq⟩
/-- FeltHarnessModel.pulls([IZ)I -/
def t_M_pulls_509_48 (E : MEnv) (I : II) (T : TT) (Q : QQ) (x2 : Int32) (x3 : Int32) (x4 : Int32) (x5 : Int32) : Prop := ev E 156 9 [some (.ref 46), some (.ref 509), some (.int x2), some (.int x3), some (.int x4), some (.int (x5 + 1)), none] [] I T Q
theorem s_M_pulls_509_48 {E : MEnv} {I : II} {T : TT} {Q : QQ} {x2 : Int32} {x3 : Int32} {x4 : Int32} {x5 : Int32} (hq : t_M_pulls_509_48 E I T Q x2 x3 x4 x5) : ev E 156 48 [some (.ref 46), some (.ref 509), some (.int x2), some (.int x3), some (.int x4), some (.int x5), none] [] I T Q := by
  unfold t_M_pulls_509_48 at hq
  refine ev_seq 2 (ip' := 9) (loc' := [some (.ref 46), some (.ref 509), some (.int x2), some (.int x3), some (.int x4), some (.int (x5 + 1)), none]) (st' := []) (I1 := I) (T1 := T) rfl ?_
  exact hq
def t_M_pulls_509_46 (E : MEnv) (I : II) (T : TT) (Q : QQ) (x2 : Int32) (x4 : Int32) (x5 : Int32) (y0 : Int32) (y1 : Int32) : Prop := t_M_pulls_509_48 E I T Q x2 (y0 + y1) x4 x5
theorem s_M_pulls_509_46 {E : MEnv} {I : II} {T : TT} {Q : QQ} {x2 : Int32} {x4 : Int32} {x5 : Int32} {y0 : Int32} {y1 : Int32} (hq : t_M_pulls_509_46 E I T Q x2 x4 x5 y0 y1) : ev E 156 46 [some (.ref 46), some (.ref 509), some (.int x2), none, some (.int x4), some (.int x5), none] [(.int y1), (.int y0)] I T Q := by
  unfold t_M_pulls_509_46 at hq
  refine ev_seq 2 (ip' := 48) (loc' := [some (.ref 46), some (.ref 509), some (.int x2), some (.int (y0 + y1)), some (.int x4), some (.int x5), none]) (st' := []) (I1 := I) (T1 := T) rfl ?_
  exact s_M_pulls_509_48 (T := T) hq
def t_M_pulls_509_32 (E : MEnv) (I : II) (T : TT) (Q : QQ) (x2 : Int32) (x4 : Int32) (x5 : Int32) (x6 : Int32) (y0 : Int32) : Prop := ev E 158 0 [some (.ref 46), some (.ref 509), some (.int x5), some (.int x6), some (.int x4)] [] I T (KI (fun v1 I1 T1 => t_M_pulls_509_46 E I1 T1 Q x2 x4 x5 y0 v1) (fun x I1 T1 => Q (.inr x) I1 T1))
theorem s_M_pulls_509_32 {E : MEnv} {I : II} {T : TT} {Q : QQ} {x2 : Int32} {x4 : Int32} {x5 : Int32} {x6 : Int32} {y0 : Int32} (hq : t_M_pulls_509_32 E I T Q x2 x4 x5 x6 y0) : ev E 156 32 [some (.ref 46), some (.ref 509), some (.int x2), none, some (.int x4), some (.int x5), some (.int x6)] [(.int y0)] I T Q := by
  unfold t_M_pulls_509_32 at hq
  refine ev_seq 5 (ip' := 37) (loc' := [some (.ref 46), some (.ref 509), some (.int x2), none, some (.int x4), some (.int x5), some (.int x6)]) (st' := [(.int x4), (.int x6), (.int x5), (.ref 509), (.ref 46), (.int y0)]) (I1 := I) (T1 := T) rfl ?_
  refine ev_callI rfl rfl rfl (fun v1 I1 T1 hq => ?_) (fun x I1 T1 hq => ?_) hq
  · refine ev_seq 1 (ip' := 46) (loc' := [some (.ref 46), some (.ref 509), some (.int x2), none, some (.int x4), some (.int x5), some (.int x6)]) (st' := [(.int v1), (.int y0)]) (I1 := I1) (T1 := T1) rfl ?_
    refine ev_fg [true, true, true, true, true, true, false] (loc' := [some (.ref 46), some (.ref 509), some (.int x2), none, some (.int x4), some (.int x5), none]) rfl ?_
    exact s_M_pulls_509_46 (T := T1) hq
  · exact ⟨by decide, hq⟩
def t_M_pulls_509_9 (E : MEnv) (I : II) (T : TT) (Q : QQ) (x2 : Int32) (x3 : Int32) (x4 : Int32) (x5 : Int32) : Prop := ((I 50 0) ≤ x5 → (Q (.inl (some (.int x3))) I T)) ∧ (¬ ((I 50 0) ≤ x5) → ((¬ (0 + x5) < 0 ∧ (0 + x5).toNatClampNeg < 29) ∧ (((I 509 (0 + x5).toNatClampNeg) = (-1) → (t_M_pulls_509_48 E I T Q x2 x3 x4 x5)) ∧ (¬ ((I 509 (0 + x5).toNatClampNeg) = (-1)) → ((x2 = 0 → ((((I 509 (0 + x5).toNatClampNeg) - (I 509 (0 + x5).toNatClampNeg) / 2 * 2) = 0 → (t_M_pulls_509_32 E I T Q x2 x4 x5 (I 509 (0 + x5).toNatClampNeg) x3)) ∧ (¬ (((I 509 (0 + x5).toNatClampNeg) - (I 509 (0 + x5).toNatClampNeg) / 2 * 2) = 0) → (ev E 158 0 [some (.ref 46), some (.ref 509), some (.int x5), some (.int (I 509 (0 + x5).toNatClampNeg)), some (.int x4)] [] I T (KI (fun v1 I1 T1 => t_M_pulls_509_46 E I1 T1 Q x2 x4 x5 x3 (0 - v1)) (fun x I1 T1 => Q (.inr x) I1 T1)))))) ∧ (¬ (x2 = 0) → (t_M_pulls_509_32 E I T Q x2 x4 x5 (I 509 (0 + x5).toNatClampNeg) x3)))))))
theorem s_M_pulls_509_9 {E : MEnv} {I : II} {T : TT} {Q : QQ} {x2 : Int32} {x3 : Int32} {x4 : Int32} {x5 : Int32} (hq : t_M_pulls_509_9 E I T Q x2 x3 x4 x5) : ev E 156 9 [some (.ref 46), some (.ref 509), some (.int x2), some (.int x3), some (.int x4), some (.int x5), none] [] I T Q := by
  unfold t_M_pulls_509_9 at hq
  refine ev_seq 5 (ip' := 14) (loc' := [some (.ref 46), some (.ref 509), some (.int x2), some (.int x3), some (.int x4), some (.int x5), none]) (st' := [(.int (I 50 0)), (.int x5)]) (I1 := I) (T1 := T) rfl ?_
  refine ev_br (p := (I 50 0) ≤ x5) (a := 50) (b := 15) (st' := []) inferInstance rfl rfl (fun hb => ?_) (fun hb => ?_)
  · have hq := hq.1 hb
    refine ev_seq 1 (ip' := 51) (loc' := [some (.ref 46), some (.ref 509), some (.int x2), some (.int x3), some (.int x4), some (.int x5), none]) (st' := [(.int x3)]) (I1 := I) (T1 := T) rfl ?_
    exact ev_ret rfl rfl hq
  · have hq := hq.2 hb
    refine ev_seq 4 (ip' := 19) (loc' := [some (.ref 46), some (.ref 509), some (.int x2), some (.int x3), some (.int x4), some (.int x5), none]) (st' := [(.int (0 + x5)), (.ref 509)]) (I1 := I) (T1 := T) rfl ?_
    obtain ⟨hg, hq⟩ := hq
    refine ev_iald rfl rfl hg ?_
    refine ev_seq 3 (ip' := 23) (loc' := [some (.ref 46), some (.ref 509), some (.int x2), some (.int x3), some (.int x4), some (.int x5), some (.int (I 509 (0 + x5).toNatClampNeg))]) (st' := [(.int (-1)), (.int (I 509 (0 + x5).toNatClampNeg))]) (I1 := I) (T1 := T) rfl ?_
    refine ev_br (p := (I 509 (0 + x5).toNatClampNeg) = (-1)) (a := 24) (b := 25) (st' := []) inferInstance rfl rfl (fun hb => ?_) (fun hb => ?_)
    · have hq := hq.1 hb
      refine ev_seq 1 (ip' := 48) (loc' := [some (.ref 46), some (.ref 509), some (.int x2), some (.int x3), some (.int x4), some (.int x5), some (.int (I 509 (0 + x5).toNatClampNeg))]) (st' := []) (I1 := I) (T1 := T) rfl ?_
      refine ev_fg [true, true, true, true, true, true, false] (loc' := [some (.ref 46), some (.ref 509), some (.int x2), some (.int x3), some (.int x4), some (.int x5), none]) rfl ?_
      exact s_M_pulls_509_48 (T := T) hq
    · have hq := hq.2 hb
      refine ev_seq 2 (ip' := 27) (loc' := [some (.ref 46), some (.ref 509), some (.int x2), some (.int x3), some (.int x4), some (.int x5), some (.int (I 509 (0 + x5).toNatClampNeg))]) (st' := [(.int x2), (.int x3)]) (I1 := I) (T1 := T) rfl ?_
      refine ev_br (p := x2 = 0) (a := 28) (b := 32) (st' := [(.int x3)]) inferInstance rfl rfl (fun hb => ?_) (fun hb => ?_)
      · have hq := hq.1 hb
        refine ev_seq 3 (ip' := 31) (loc' := [some (.ref 46), some (.ref 509), some (.int x2), some (.int x3), some (.int x4), some (.int x5), some (.int (I 509 (0 + x5).toNatClampNeg))]) (st' := [(.int ((I 509 (0 + x5).toNatClampNeg) - (I 509 (0 + x5).toNatClampNeg) / 2 * 2)), (.int x3)]) (I1 := I) (T1 := T) rfl ?_
        refine ev_br (p := ((I 509 (0 + x5).toNatClampNeg) - (I 509 (0 + x5).toNatClampNeg) / 2 * 2) = 0) (a := 32) (b := 39) (st' := [(.int x3)]) inferInstance rfl rfl (fun hb => ?_) (fun hb => ?_)
        · have hq := hq.1 hb
          refine ev_fg [true, true, true, false, true, true, true] (loc' := [some (.ref 46), some (.ref 509), some (.int x2), none, some (.int x4), some (.int x5), some (.int (I 509 (0 + x5).toNatClampNeg))]) rfl ?_
          exact s_M_pulls_509_32 (T := T) hq
        · have hq := hq.2 hb
          refine ev_seq 5 (ip' := 44) (loc' := [some (.ref 46), some (.ref 509), some (.int x2), some (.int x3), some (.int x4), some (.int x5), some (.int (I 509 (0 + x5).toNatClampNeg))]) (st' := [(.int x4), (.int (I 509 (0 + x5).toNatClampNeg)), (.int x5), (.ref 509), (.ref 46), (.int x3)]) (I1 := I) (T1 := T) rfl ?_
          refine ev_callI rfl rfl rfl (fun v1 I1 T1 hq => ?_) (fun x I1 T1 hq => ?_) hq
          · refine ev_seq 1 (ip' := 46) (loc' := [some (.ref 46), some (.ref 509), some (.int x2), some (.int x3), some (.int x4), some (.int x5), some (.int (I 509 (0 + x5).toNatClampNeg))]) (st' := [(.int (0 - v1)), (.int x3)]) (I1 := I1) (T1 := T1) rfl ?_
            refine ev_fg [true, true, true, false, true, true, false] (loc' := [some (.ref 46), some (.ref 509), some (.int x2), none, some (.int x4), some (.int x5), none]) rfl ?_
            exact s_M_pulls_509_46 (T := T1) hq
          · exact ⟨by decide, hq⟩
      · have hq := hq.2 hb
        refine ev_fg [true, true, true, false, true, true, true] (loc' := [some (.ref 46), some (.ref 509), some (.int x2), none, some (.int x4), some (.int x5), some (.int (I 509 (0 + x5).toNatClampNeg))]) rfl ?_
        exact s_M_pulls_509_32 (T := T) hq
def t_M_pulls_509_0 (E : MEnv) (I : II) (T : TT) (Q : QQ) (x2 : Int32) : Prop := ev E 152 0 [some (.ref 46), some (.ref 509), none, none] [] I T (KI (fun v1 I1 T1 => ev E 157 0 [some (.int v1), none, none] [] I1 T1 (KI (fun v2 I2 T2 => t_M_pulls_509_9 E I2 T2 Q x2 0 v2 0) (fun _ _ _ => False))) (fun x I1 T1 => Q (.inr x) I1 T1))
theorem s_M_pulls_509_0 {E : MEnv} {I : II} {T : TT} {Q : QQ} {x2 : Int32} (hq : t_M_pulls_509_0 E I T Q x2) : ev E 156 0 [some (.ref 46), some (.ref 509), some (.int x2), none, none, none, none] [] I T Q := by
  unfold t_M_pulls_509_0 at hq
  refine ev_seq 4 (ip' := 4) (loc' := [some (.ref 46), some (.ref 509), some (.int x2), some (.int 0), none, none, none]) (st' := [(.ref 509), (.ref 46)]) (I1 := I) (T1 := T) rfl ?_
  refine ev_callI rfl rfl rfl (fun v1 I1 T1 hq => ?_) (fun x I1 T1 hq => ?_) hq
  · refine ev_callI rfl rfl rfl (fun v2 I2 T2 hq => ?_) (fun x I1 T1 hq => ?_) hq
    · refine ev_seq 3 (ip' := 9) (loc' := [some (.ref 46), some (.ref 509), some (.int x2), some (.int 0), some (.int v2), some (.int 0), none]) (st' := []) (I1 := I2) (T1 := T2) rfl ?_
      exact s_M_pulls_509_9 (T := T2) hq
    · exact hq.elim
  · exact ⟨by decide, hq⟩
