/-- FeltHarnessModel.takes(IIIIII)Z -/
def t_M_takes_13 (E : MEnv) (I : II) (T : TT) (Q : QQ) (x7 : Int32) : Prop := (x7 = 0 ∨ x7 = 1) ∧ Q (.inl (some (.int x7))) I T
theorem s_M_takes_13 {E : MEnv} {I : II} {T : TT} {Q : QQ} {x7 : Int32} (hq : t_M_takes_13 E I T Q x7) : ev E 92 13 [none, none, none, none, none, none, none, some (.int x7)] [] I T Q := by
  unfold t_M_takes_13 at hq
  refine ev_seq 1 (ip' := 14) (loc' := [none, none, none, none, none, none, none, some (.int x7)]) (st' := [(.int x7)]) (I1 := I) (T1 := T) rfl ?_
  exact ev_retb rfl rfl hq.1 hq.2
def t_M_takes_0 (E : MEnv) (I : II) (T : TT) (Q : QQ) (x1 : Int32) (x2 : Int32) (x3 : Int32) (x4 : Int32) (x5 : Int32) (x6 : Int32) : Prop := ev E 67 0 [some (.ref 46), some (.int x1), some (.int x2), some (.int x3), some (.int x4), some (.int x5), some (.int x6)] [] I T (KI (fun v1 I1 T1 => (v1 = 0 → (t_M_takes_13 E I1 T1 Q v1)) ∧ (¬ (v1 = 0) → (ev E 70 0 [some (.ref 46)] [] I1 T1 (KV (fun I2 T2 => t_M_takes_13 E I2 T2 Q v1) (fun x I1 T1 => Q (.inr x) I1 T1))))) (fun x I1 T1 => Q (.inr x) I1 T1))
theorem s_M_takes_0 {E : MEnv} {I : II} {T : TT} {Q : QQ} {x1 : Int32} {x2 : Int32} {x3 : Int32} {x4 : Int32} {x5 : Int32} {x6 : Int32} (hq : t_M_takes_0 E I T Q x1 x2 x3 x4 x5 x6) : ev E 92 0 [some (.ref 46), some (.int x1), some (.int x2), some (.int x3), some (.int x4), some (.int x5), some (.int x6), none] [] I T Q := by
  unfold t_M_takes_0 at hq
  refine ev_seq 7 (ip' := 7) (loc' := [some (.ref 46), some (.int x1), some (.int x2), some (.int x3), some (.int x4), some (.int x5), some (.int x6), none]) (st' := [(.int x6), (.int x5), (.int x4), (.int x3), (.int x2), (.int x1), (.ref 46)]) (I1 := I) (T1 := T) rfl ?_
  refine ev_callI rfl rfl rfl (fun v1 I1 T1 hq => ?_) (fun x I1 T1 hq => ?_) hq
  · refine ev_seq 2 (ip' := 10) (loc' := [some (.ref 46), some (.int x1), some (.int x2), some (.int x3), some (.int x4), some (.int x5), some (.int x6), some (.int v1)]) (st' := [(.int v1)]) (I1 := I1) (T1 := T1) rfl ?_
    refine ev_br (p := v1 = 0) (a := 13) (b := 11) (st' := []) inferInstance rfl rfl (fun hb => ?_) (fun hb => ?_)
    · have hq := hq.1 hb
      refine ev_fg [false, false, false, false, false, false, false, true] (loc' := [none, none, none, none, none, none, none, some (.int v1)]) rfl ?_
      exact s_M_takes_13 (T := T1) hq
    · have hq := hq.2 hb
      refine ev_seq 1 (ip' := 12) (loc' := [some (.ref 46), some (.int x1), some (.int x2), some (.int x3), some (.int x4), some (.int x5), some (.int x6), some (.int v1)]) (st' := [(.ref 46)]) (I1 := I1) (T1 := T1) rfl ?_
      refine ev_callV rfl rfl rfl (fun I2 T2 hq => ?_) (fun x I1 T1 hq => ?_) hq
      · refine ev_fg [false, false, false, false, false, false, false, true] (loc' := [none, none, none, none, none, none, none, some (.int v1)]) rfl ?_
        exact s_M_takes_13 (T := T2) hq
      · exact ⟨by decide, hq⟩
  · exact ⟨by decide, hq⟩
/-- FeltHarnessModel.takesSign(I)Z -/
def t_M_takesSign_25 (E : MEnv) (I : II) (T : TT) (Q : QQ) (x2 : Int32) : Prop := (x2 = 0 ∨ x2 = 1) ∧ Q (.inl (some (.int x2))) I T
theorem s_M_takesSign_25 {E : MEnv} {I : II} {T : TT} {Q : QQ} {x2 : Int32} (hq : t_M_takesSign_25 E I T Q x2) : ev E 93 25 [none, none, some (.int x2)] [] I T Q := by
  unfold t_M_takesSign_25 at hq
  refine ev_seq 1 (ip' := 26) (loc' := [none, none, some (.int x2)]) (st' := [(.int x2)]) (I1 := I) (T1 := T) rfl ?_
  exact ev_retb rfl rfl hq.1 hq.2
def t_M_takesSign_16 (E : MEnv) (I : II) (T : TT) (Q : QQ) (y0 : Int32) : Prop := (y0 = 0 → (t_M_takesSign_25 E I T Q y0)) ∧ (¬ (y0 = 0) → (t_M_takesSign_25 E (m_up I 46 4 ((I 46 4) + 1)) T Q y0))
theorem s_M_takesSign_16 {E : MEnv} {I : II} {T : TT} {Q : QQ} {y0 : Int32} (hq : t_M_takesSign_16 E I T Q y0) : ev E 93 16 [some (.ref 46), none, none] [(.int y0)] I T Q := by
  unfold t_M_takesSign_16 at hq
  refine ev_seq 2 (ip' := 18) (loc' := [some (.ref 46), none, some (.int y0)]) (st' := [(.int y0)]) (I1 := I) (T1 := T) rfl ?_
  refine ev_br (p := y0 = 0) (a := 25) (b := 19) (st' := []) inferInstance rfl rfl (fun hb => ?_) (fun hb => ?_)
  · have hq := hq.1 hb
    refine ev_fg [false, true, true] (loc' := [none, none, some (.int y0)]) rfl ?_
    exact s_M_takesSign_25 (T := T) hq
  · have hq := hq.2 hb
    refine ev_seq 6 (ip' := 25) (loc' := [some (.ref 46), none, some (.int y0)]) (st' := []) (I1 := m_up I 46 4 ((I 46 4) + 1)) (T1 := T) rfl ?_
    refine ev_fg [false, true, true] (loc' := [none, none, some (.int y0)]) rfl ?_
    exact s_M_takesSign_25 (T := T) hq
def t_M_takesSign_0 (E : MEnv) (I : II) (T : TT) (Q : QQ) (x1 : Int32) : Prop := ((I 46 5) = 0 → (ev E 60 0 [some (.ref 46)] [] I T (KV (fun I1 T1 => ev E 61 0 [some (.ref 46), some (.int (I1 46 4))] [] I1 T1 (KI (fun v2 I2 T2 => (v2 = x1 → (t_M_takesSign_16 E I2 T2 Q 1)) ∧ (¬ (v2 = x1) → (t_M_takesSign_16 E I2 T2 Q 0))) (fun x I1 T1 => Q (.inr x) I1 T1))) (fun x I1 T1 => Q (.inr x) I1 T1)))) ∧ (¬ ((I 46 5) = 0) → (Q (.inl (some (.int 0))) I T))
theorem s_M_takesSign_0 {E : MEnv} {I : II} {T : TT} {Q : QQ} {x1 : Int32} (hq : t_M_takesSign_0 E I T Q x1) : ev E 93 0 [some (.ref 46), some (.int x1), none] [] I T Q := by
  unfold t_M_takesSign_0 at hq
  refine ev_seq 2 (ip' := 2) (loc' := [some (.ref 46), some (.int x1), none]) (st' := [(.int (I 46 5))]) (I1 := I) (T1 := T) rfl ?_
  refine ev_br (p := (I 46 5) = 0) (a := 5) (b := 3) (st' := []) inferInstance rfl rfl (fun hb => ?_) (fun hb => ?_)
  · have hq := hq.1 hb
    refine ev_seq 1 (ip' := 6) (loc' := [some (.ref 46), some (.int x1), none]) (st' := [(.ref 46)]) (I1 := I) (T1 := T) rfl ?_
    refine ev_callV rfl rfl rfl (fun I1 T1 hq => ?_) (fun x I1 T1 hq => ?_) hq
    · refine ev_seq 3 (ip' := 10) (loc' := [some (.ref 46), some (.int x1), none]) (st' := [(.int (I1 46 4)), (.ref 46)]) (I1 := I1) (T1 := T1) rfl ?_
      refine ev_callI rfl rfl rfl (fun v2 I2 T2 hq => ?_) (fun x I1 T1 hq => ?_) hq
      · refine ev_seq 1 (ip' := 12) (loc' := [some (.ref 46), some (.int x1), none]) (st' := [(.int x1), (.int v2)]) (I1 := I2) (T1 := T2) rfl ?_
        refine ev_br (p := v2 = x1) (a := 13) (b := 15) (st' := []) inferInstance rfl rfl (fun hb => ?_) (fun hb => ?_)
        · have hq := hq.1 hb
          refine ev_seq 2 (ip' := 16) (loc' := [some (.ref 46), some (.int x1), none]) (st' := [(.int 1)]) (I1 := I2) (T1 := T2) rfl ?_
          refine ev_fg [true, false, true] (loc' := [some (.ref 46), none, none]) rfl ?_
          exact s_M_takesSign_16 (T := T2) hq
        · have hq := hq.2 hb
          refine ev_seq 1 (ip' := 16) (loc' := [some (.ref 46), some (.int x1), none]) (st' := [(.int 0)]) (I1 := I2) (T1 := T2) rfl ?_
          refine ev_fg [true, false, true] (loc' := [some (.ref 46), none, none]) rfl ?_
          exact s_M_takesSign_16 (T := T2) hq
      · exact ⟨by decide, hq⟩
    · exact ⟨by decide, hq⟩
  · have hq := hq.2 hb
    refine ev_seq 1 (ip' := 4) (loc' := [some (.ref 46), some (.int x1), none]) (st' := [(.int 0)]) (I1 := I) (T1 := T) rfl ?_
    exact ev_ret rfl rfl hq
/-- FeltHarnessModel.team(II)I -/
def t_M_team_40 (E : MEnv) (I : II) (T : TT) (Q : QQ) (y0 : Int32) : Prop := Q (.inl (some (.int y0))) I T
theorem s_M_team_40 {E : MEnv} {I : II} {T : TT} {Q : QQ} {y0 : Int32} (hq : t_M_team_40 E I T Q y0) : ev E 224 40 [none, none, none] [(.int y0)] I T Q := by
  unfold t_M_team_40 at hq
  exact ev_ret rfl rfl hq
def t_M_team_28 (E : MEnv) (I : II) (T : TT) (Q : QQ) : Prop := Q (.inl (some (.int 0))) I T
theorem s_M_team_28 {E : MEnv} {I : II} {T : TT} {Q : QQ} (hq : t_M_team_28 E I T Q) : ev E 224 28 [none, none, none] [] I T Q := by
  unfold t_M_team_28 at hq
  refine ev_seq 1 (ip' := 29) (loc' := [none, none, none]) (st' := [(.int 0)]) (I1 := I) (T1 := T) rfl ?_
  exact ev_ret rfl rfl hq
def t_M_team_24 (E : MEnv) (I : II) (T : TT) (Q : QQ) (x1 : Int32) (x2 : Int32) (y1 : Int32) : Prop := ev E 58 0 [some (.ref 46), some (.int y1), some (.int 2), some (.int 1)] [] I T (KI (fun v1 I1 T1 => (v1 = 0 → (ev E 225 0 [some (.ref 46), some (.int x1), none] [] I1 T1 (KV (fun I2 T2 => (x2 = 0 → (t_M_team_40 E I2 T2 Q (I2 46 42))) ∧ (¬ (x2 = 0) → (t_M_team_40 E I2 T2 Q (I2 46 43)))) (fun x I1 T1 => Q (.inr x) I1 T1)))) ∧ (¬ (v1 = 0) → (t_M_team_28 E I1 T1 Q ))) (fun x I1 T1 => Q (.inr x) I1 T1))
theorem s_M_team_24 {E : MEnv} {I : II} {T : TT} {Q : QQ} {x1 : Int32} {x2 : Int32} {y1 : Int32} (hq : t_M_team_24 E I T Q x1 x2 y1) : ev E 224 24 [some (.ref 46), some (.int x1), some (.int x2)] [(.int y1), (.ref 46)] I T Q := by
  unfold t_M_team_24 at hq
  refine ev_seq 2 (ip' := 26) (loc' := [some (.ref 46), some (.int x1), some (.int x2)]) (st' := [(.int 1), (.int 2), (.int y1), (.ref 46)]) (I1 := I) (T1 := T) rfl ?_
  refine ev_callI rfl rfl rfl (fun v1 I1 T1 hq => ?_) (fun x I1 T1 hq => ?_) hq
  · refine ev_br (p := v1 = 0) (a := 30) (b := 28) (st' := []) inferInstance rfl rfl (fun hb => ?_) (fun hb => ?_)
    · have hq := hq.1 hb
      refine ev_seq 2 (ip' := 32) (loc' := [some (.ref 46), some (.int x1), some (.int x2)]) (st' := [(.int x1), (.ref 46)]) (I1 := I1) (T1 := T1) rfl ?_
      refine ev_callV rfl rfl rfl (fun I2 T2 hq => ?_) (fun x I1 T1 hq => ?_) hq
      · refine ev_seq 1 (ip' := 34) (loc' := [some (.ref 46), some (.int x1), some (.int x2)]) (st' := [(.int x2)]) (I1 := I2) (T1 := T2) rfl ?_
        refine ev_br (p := x2 = 0) (a := 35) (b := 38) (st' := []) inferInstance rfl rfl (fun hb => ?_) (fun hb => ?_)
        · have hq := hq.1 hb
          refine ev_seq 3 (ip' := 40) (loc' := [some (.ref 46), some (.int x1), some (.int x2)]) (st' := [(.int (I2 46 42))]) (I1 := I2) (T1 := T2) rfl ?_
          refine ev_fg [false, false, false] (loc' := [none, none, none]) rfl ?_
          exact s_M_team_40 (T := T2) hq
        · have hq := hq.2 hb
          refine ev_seq 2 (ip' := 40) (loc' := [some (.ref 46), some (.int x1), some (.int x2)]) (st' := [(.int (I2 46 43))]) (I1 := I2) (T1 := T2) rfl ?_
          refine ev_fg [false, false, false] (loc' := [none, none, none]) rfl ?_
          exact s_M_team_40 (T := T2) hq
      · exact ⟨by decide, hq⟩
    · have hq := hq.2 hb
      refine ev_fg [false, false, false] (loc' := [none, none, none]) rfl ?_
      exact s_M_team_28 (T := T1) hq
  · exact ⟨by decide, hq⟩
def t_M_team_11 (E : MEnv) (I : II) (T : TT) (Q : QQ) (x1 : Int32) (x2 : Int32) (y1 : Int32) : Prop := ev E 58 0 [some (.ref 46), some (.int y1), some (.int 1), some (.int 0)] [] I T (KI (fun v1 I1 T1 => (v1 = 0 → (ev E 57 0 [some (.int x2), some (.int 0), some (.int 1)] [] I1 T1 (KI (fun v2 I2 T2 => (v2 = 0 → (t_M_team_24 E I2 T2 Q x1 x2 1)) ∧ (¬ (v2 = 0) → (t_M_team_24 E I2 T2 Q x1 x2 0))) (fun _ _ _ => False)))) ∧ (¬ (v1 = 0) → (t_M_team_28 E I1 T1 Q ))) (fun x I1 T1 => Q (.inr x) I1 T1))
theorem s_M_team_11 {E : MEnv} {I : II} {T : TT} {Q : QQ} {x1 : Int32} {x2 : Int32} {y1 : Int32} (hq : t_M_team_11 E I T Q x1 x2 y1) : ev E 224 11 [some (.ref 46), some (.int x1), some (.int x2)] [(.int y1), (.ref 46)] I T Q := by
  unfold t_M_team_11 at hq
  refine ev_seq 2 (ip' := 13) (loc' := [some (.ref 46), some (.int x1), some (.int x2)]) (st' := [(.int 0), (.int 1), (.int y1), (.ref 46)]) (I1 := I) (T1 := T) rfl ?_
  refine ev_callI rfl rfl rfl (fun v1 I1 T1 hq => ?_) (fun x I1 T1 hq => ?_) hq
  · refine ev_br (p := v1 = 0) (a := 15) (b := 28) (st' := []) inferInstance rfl rfl (fun hb => ?_) (fun hb => ?_)
    · have hq := hq.1 hb
      refine ev_seq 4 (ip' := 19) (loc' := [some (.ref 46), some (.int x1), some (.int x2)]) (st' := [(.int 1), (.int 0), (.int x2), (.ref 46)]) (I1 := I1) (T1 := T1) rfl ?_
      refine ev_callI rfl rfl rfl (fun v2 I2 T2 hq => ?_) (fun x I1 T1 hq => ?_) hq
      · refine ev_br (p := v2 = 0) (a := 21) (b := 23) (st' := [(.ref 46)]) inferInstance rfl rfl (fun hb => ?_) (fun hb => ?_)
        · have hq := hq.1 hb
          refine ev_seq 2 (ip' := 24) (loc' := [some (.ref 46), some (.int x1), some (.int x2)]) (st' := [(.int 1), (.ref 46)]) (I1 := I2) (T1 := T2) rfl ?_
          exact s_M_team_24 (T := T2) hq
        · have hq := hq.2 hb
          refine ev_seq 1 (ip' := 24) (loc' := [some (.ref 46), some (.int x1), some (.int x2)]) (st' := [(.int 0), (.ref 46)]) (I1 := I2) (T1 := T2) rfl ?_
          exact s_M_team_24 (T := T2) hq
      · exact hq.elim
    · have hq := hq.2 hb
      refine ev_fg [false, false, false] (loc' := [none, none, none]) rfl ?_
      exact s_M_team_28 (T := T1) hq
  · exact ⟨by decide, hq⟩
def t_M_team_0 (E : MEnv) (I : II) (T : TT) (Q : QQ) (x1 : Int32) (x2 : Int32) : Prop := ev E 195 0 [some (.ref 46), some (.int x1)] [] (m_up I 46 0 0) T (KI (fun v1 I1 T1 => (v1 = 0 → (t_M_team_11 E I1 T1 Q x1 x2 1)) ∧ (¬ (v1 = 0) → (t_M_team_11 E I1 T1 Q x1 x2 0))) (fun x I1 T1 => Q (.inr x) I1 T1))
theorem s_M_team_0 {E : MEnv} {I : II} {T : TT} {Q : QQ} {x1 : Int32} {x2 : Int32} (hq : t_M_team_0 E I T Q x1 x2) : ev E 224 0 [some (.ref 46), some (.int x1), some (.int x2)] [] I T Q := by
  unfold t_M_team_0 at hq
  refine ev_seq 6 (ip' := 6) (loc' := [some (.ref 46), some (.int x1), some (.int x2)]) (st' := [(.int x1), (.ref 46), (.ref 46)]) (I1 := m_up I 46 0 0) (T1 := T) rfl ?_
  refine ev_callI rfl rfl rfl (fun v1 I1 T1 hq => ?_) (fun x I1 T1 hq => ?_) hq
  · refine ev_br (p := v1 = 0) (a := 8) (b := 10) (st' := [(.ref 46)]) inferInstance rfl rfl (fun hb => ?_) (fun hb => ?_)
    · have hq := hq.1 hb
      refine ev_seq 2 (ip' := 11) (loc' := [some (.ref 46), some (.int x1), some (.int x2)]) (st' := [(.int 1), (.ref 46)]) (I1 := I1) (T1 := T1) rfl ?_
      exact s_M_team_11 (T := T1) hq
    · have hq := hq.2 hb
      refine ev_seq 1 (ip' := 11) (loc' := [some (.ref 46), some (.int x1), some (.int x2)]) (st' := [(.int 0), (.ref 46)]) (I1 := I1) (T1 := T1) rfl ?_
      exact s_M_team_11 (T := T1) hq
  · exact ⟨by decide, hq⟩
/-- FeltHarnessModel.teamOf([I)I -/
def t_M_teamOf_508_23 (E : MEnv) (I : II) (T : TT) (Q : QQ) (x3 : Int32) (y0 : Int32) (y1 : Int32) : Prop := ev E 152 4 [some (.ref 46), some (.ref 508), some (.int (y0 ||| y1)), some (.int (x3 + 1))] [] I T Q
theorem s_M_teamOf_508_23 {E : MEnv} {I : II} {T : TT} {Q : QQ} {x3 : Int32} {y0 : Int32} {y1 : Int32} (hq : t_M_teamOf_508_23 E I T Q x3 y0 y1) : ev E 152 23 [some (.ref 46), some (.ref 508), none, some (.int x3)] [(.int y1), (.int y0)] I T Q := by
  unfold t_M_teamOf_508_23 at hq
  refine ev_seq 4 (ip' := 4) (loc' := [some (.ref 46), some (.ref 508), some (.int (y0 ||| y1)), some (.int (x3 + 1))]) (st' := []) (I1 := I) (T1 := T) rfl ?_
  exact hq
def t_M_teamOf_508_4 (E : MEnv) (I : II) (T : TT) (Q : QQ) (x2 : Int32) (x3 : Int32) : Prop := ((I 50 0) ≤ x3 → (Q (.inl (some (.int x2))) I T)) ∧ (¬ ((I 50 0) ≤ x3) → ((¬ (0 + x3) < 0 ∧ (0 + x3).toNatClampNeg < 29) ∧ (((I 508 (0 + x3).toNatClampNeg) = (-1) → (t_M_teamOf_508_23 E I T Q x3 x2 0)) ∧ (¬ ((I 508 (0 + x3).toNatClampNeg) = (-1)) → (t_M_teamOf_508_23 E I T Q x3 x2 ((1 : Int32) <<< (x3 &&& 31)))))))
theorem s_M_teamOf_508_4 {E : MEnv} {I : II} {T : TT} {Q : QQ} {x2 : Int32} {x3 : Int32} (hq : t_M_teamOf_508_4 E I T Q x2 x3) : ev E 152 4 [some (.ref 46), some (.ref 508), some (.int x2), some (.int x3)] [] I T Q := by
  unfold t_M_teamOf_508_4 at hq
  refine ev_seq 5 (ip' := 9) (loc' := [some (.ref 46), some (.ref 508), some (.int x2), some (.int x3)]) (st' := [(.int (I 50 0)), (.int x3)]) (I1 := I) (T1 := T) rfl ?_
  refine ev_br (p := (I 50 0) ≤ x3) (a := 27) (b := 10) (st' := []) inferInstance rfl rfl (fun hb => ?_) (fun hb => ?_)
  · have hq := hq.1 hb
    refine ev_seq 1 (ip' := 28) (loc' := [some (.ref 46), some (.ref 508), some (.int x2), some (.int x3)]) (st' := [(.int x2)]) (I1 := I) (T1 := T) rfl ?_
    exact ev_ret rfl rfl hq
  · have hq := hq.2 hb
    refine ev_seq 5 (ip' := 15) (loc' := [some (.ref 46), some (.ref 508), some (.int x2), some (.int x3)]) (st' := [(.int (0 + x3)), (.ref 508), (.int x2)]) (I1 := I) (T1 := T) rfl ?_
    obtain ⟨hg, hq⟩ := hq
    refine ev_iald rfl rfl hg ?_
    refine ev_seq 1 (ip' := 17) (loc' := [some (.ref 46), some (.ref 508), some (.int x2), some (.int x3)]) (st' := [(.int (-1)), (.int (I 508 (0 + x3).toNatClampNeg)), (.int x2)]) (I1 := I) (T1 := T) rfl ?_
    refine ev_br (p := (I 508 (0 + x3).toNatClampNeg) = (-1)) (a := 18) (b := 20) (st' := [(.int x2)]) inferInstance rfl rfl (fun hb => ?_) (fun hb => ?_)
    · have hq := hq.1 hb
      refine ev_seq 2 (ip' := 23) (loc' := [some (.ref 46), some (.ref 508), some (.int x2), some (.int x3)]) (st' := [(.int 0), (.int x2)]) (I1 := I) (T1 := T) rfl ?_
      refine ev_fg [true, true, false, true] (loc' := [some (.ref 46), some (.ref 508), none, some (.int x3)]) rfl ?_
      exact s_M_teamOf_508_23 (T := T) hq
    · have hq := hq.2 hb
      refine ev_seq 3 (ip' := 23) (loc' := [some (.ref 46), some (.ref 508), some (.int x2), some (.int x3)]) (st' := [(.int ((1 : Int32) <<< (x3 &&& 31))), (.int x2)]) (I1 := I) (T1 := T) rfl ?_
      refine ev_fg [true, true, false, true] (loc' := [some (.ref 46), some (.ref 508), none, some (.int x3)]) rfl ?_
      exact s_M_teamOf_508_23 (T := T) hq
def t_M_teamOf_508_0 (E : MEnv) (I : II) (T : TT) (Q : QQ) : Prop := t_M_teamOf_508_4 E I T Q 0 0
theorem s_M_teamOf_508_0 {E : MEnv} {I : II} {T : TT} {Q : QQ} (hq : t_M_teamOf_508_0 E I T Q) : ev E 152 0 [some (.ref 46), some (.ref 508), none, none] [] I T Q := by
  unfold t_M_teamOf_508_0 at hq
  refine ev_seq 4 (ip' := 4) (loc' := [some (.ref 46), some (.ref 508), some (.int 0), some (.int 0)]) (st' := []) (I1 := I) (T1 := T) rfl ?_
  exact s_M_teamOf_508_4 (T := T) hq
/-- FeltHarnessModel.teamOf([I)I -/
def t_M_teamOf_509_23 (E : MEnv) (I : II) (T : TT) (Q : QQ) (x3 : Int32) (y0 : Int32) (y1 : Int32) : Prop := ev E 152 4 [some (.ref 46), some (.ref 509), some (.int (y0 ||| y1)), some (.int (x3 + 1))] [] I T Q
theorem s_M_teamOf_509_23 {E : MEnv} {I : II} {T : TT} {Q : QQ} {x3 : Int32} {y0 : Int32} {y1 : Int32} (hq : t_M_teamOf_509_23 E I T Q x3 y0 y1) : ev E 152 23 [some (.ref 46), some (.ref 509), none, some (.int x3)] [(.int y1), (.int y0)] I T Q := by
  unfold t_M_teamOf_509_23 at hq
  refine ev_seq 4 (ip' := 4) (loc' := [some (.ref 46), some (.ref 509), some (.int (y0 ||| y1)), some (.int (x3 + 1))]) (st' := []) (I1 := I) (T1 := T) rfl ?_
  exact hq
def t_M_teamOf_509_4 (E : MEnv) (I : II) (T : TT) (Q : QQ) (x2 : Int32) (x3 : Int32) : Prop := ((I 50 0) ≤ x3 → (Q (.inl (some (.int x2))) I T)) ∧ (¬ ((I 50 0) ≤ x3) → ((¬ (0 + x3) < 0 ∧ (0 + x3).toNatClampNeg < 29) ∧ (((I 509 (0 + x3).toNatClampNeg) = (-1) → (t_M_teamOf_509_23 E I T Q x3 x2 0)) ∧ (¬ ((I 509 (0 + x3).toNatClampNeg) = (-1)) → (t_M_teamOf_509_23 E I T Q x3 x2 ((1 : Int32) <<< (x3 &&& 31)))))))
theorem s_M_teamOf_509_4 {E : MEnv} {I : II} {T : TT} {Q : QQ} {x2 : Int32} {x3 : Int32} (hq : t_M_teamOf_509_4 E I T Q x2 x3) : ev E 152 4 [some (.ref 46), some (.ref 509), some (.int x2), some (.int x3)] [] I T Q := by
  unfold t_M_teamOf_509_4 at hq
  refine ev_seq 5 (ip' := 9) (loc' := [some (.ref 46), some (.ref 509), some (.int x2), some (.int x3)]) (st' := [(.int (I 50 0)), (.int x3)]) (I1 := I) (T1 := T) rfl ?_
  refine ev_br (p := (I 50 0) ≤ x3) (a := 27) (b := 10) (st' := []) inferInstance rfl rfl (fun hb => ?_) (fun hb => ?_)
  · have hq := hq.1 hb
    refine ev_seq 1 (ip' := 28) (loc' := [some (.ref 46), some (.ref 509), some (.int x2), some (.int x3)]) (st' := [(.int x2)]) (I1 := I) (T1 := T) rfl ?_
    exact ev_ret rfl rfl hq
  · have hq := hq.2 hb
    refine ev_seq 5 (ip' := 15) (loc' := [some (.ref 46), some (.ref 509), some (.int x2), some (.int x3)]) (st' := [(.int (0 + x3)), (.ref 509), (.int x2)]) (I1 := I) (T1 := T) rfl ?_
    obtain ⟨hg, hq⟩ := hq
    refine ev_iald rfl rfl hg ?_
    refine ev_seq 1 (ip' := 17) (loc' := [some (.ref 46), some (.ref 509), some (.int x2), some (.int x3)]) (st' := [(.int (-1)), (.int (I 509 (0 + x3).toNatClampNeg)), (.int x2)]) (I1 := I) (T1 := T) rfl ?_
    refine ev_br (p := (I 509 (0 + x3).toNatClampNeg) = (-1)) (a := 18) (b := 20) (st' := [(.int x2)]) inferInstance rfl rfl (fun hb => ?_) (fun hb => ?_)
    · have hq := hq.1 hb
      refine ev_seq 2 (ip' := 23) (loc' := [some (.ref 46), some (.ref 509), some (.int x2), some (.int x3)]) (st' := [(.int 0), (.int x2)]) (I1 := I) (T1 := T) rfl ?_
      refine ev_fg [true, true, false, true] (loc' := [some (.ref 46), some (.ref 509), none, some (.int x3)]) rfl ?_
      exact s_M_teamOf_509_23 (T := T) hq
    · have hq := hq.2 hb
      refine ev_seq 3 (ip' := 23) (loc' := [some (.ref 46), some (.ref 509), some (.int x2), some (.int x3)]) (st' := [(.int ((1 : Int32) <<< (x3 &&& 31))), (.int x2)]) (I1 := I) (T1 := T) rfl ?_
      refine ev_fg [true, true, false, true] (loc' := [some (.ref 46), some (.ref 509), none, some (.int x3)]) rfl ?_
      exact s_M_teamOf_509_23 (T := T) hq
def t_M_teamOf_509_0 (E : MEnv) (I : II) (T : TT) (Q : QQ) : Prop := t_M_teamOf_509_4 E I T Q 0 0
theorem s_M_teamOf_509_0 {E : MEnv} {I : II} {T : TT} {Q : QQ} (hq : t_M_teamOf_509_0 E I T Q) : ev E 152 0 [some (.ref 46), some (.ref 509), none, none] [] I T Q := by
  unfold t_M_teamOf_509_0 at hq
  refine ev_seq 4 (ip' := 4) (loc' := [some (.ref 46), some (.ref 509), some (.int 0), some (.int 0)]) (st' := []) (I1 := I) (T1 := T) rfl ?_
  exact s_M_teamOf_509_4 (T := T) hq
/-- FeltHarnessModel.tellsNothing()V -/
def t_M_tellsNothing_17 (E : MEnv) (I : II) (T : TT) (Q : QQ) (x1 : Int32) : Prop := (8 ≤ x1 → (Q (.inl none) I T)) ∧ (¬ (8 ≤ x1) → ((¬ x1 < 0 ∧ x1.toNatClampNeg < 8) ∧ (ev E 18 17 [some (.ref 46), some (.int (x1 + 1))] [] (m_up I 83 x1.toNatClampNeg 0) T Q)))
theorem s_M_tellsNothing_17 {E : MEnv} {I : II} {T : TT} {Q : QQ} {x1 : Int32} (hq : t_M_tellsNothing_17 E I T Q x1) : ev E 18 17 [some (.ref 46), some (.int x1)] [] I T Q := by
  unfold t_M_tellsNothing_17 at hq
  refine ev_seq 2 (ip' := 19) (loc' := [some (.ref 46), some (.int x1)]) (st' := [(.int 8), (.int x1)]) (I1 := I) (T1 := T) rfl ?_
  refine ev_br (p := 8 ≤ x1) (a := 27) (b := 20) (st' := []) inferInstance rfl rfl (fun hb => ?_) (fun hb => ?_)
  · have hq := hq.1 hb
    exact ev_ret rfl rfl hq
  · have hq := hq.2 hb
    refine ev_seq 4 (ip' := 24) (loc' := [some (.ref 46), some (.int x1)]) (st' := [(.int 0), (.int x1), (.ref 83)]) (I1 := I) (T1 := T) rfl ?_
    obtain ⟨hg, hq⟩ := hq
    refine ev_iast rfl rfl hg ?_
    refine ev_seq 2 (ip' := 17) (loc' := [some (.ref 46), some (.int (x1 + 1))]) (st' := []) (I1 := m_up I 83 x1.toNatClampNeg 0) (T1 := T) rfl ?_
    exact hq
def t_M_tellsNothing_0 (E : MEnv) (I : II) (T : TT) (Q : QQ) : Prop := t_M_tellsNothing_17 E (m_up (m_up (m_up I 49 0 0) 49 1 0) 49 2 12) T Q 0
theorem s_M_tellsNothing_0 {E : MEnv} {I : II} {T : TT} {Q : QQ} (hq : t_M_tellsNothing_0 E I T Q) : ev E 18 0 [some (.ref 46), none] [] I T Q := by
  unfold t_M_tellsNothing_0 at hq
  refine ev_seq 17 (ip' := 17) (loc' := [some (.ref 46), some (.int 0)]) (st' := []) (I1 := m_up (m_up (m_up I 49 0 0) 49 1 0) 49 2 12) (T1 := T) rfl ?_
  exact s_M_tellsNothing_17 (T := T) hq
/-- FeltHarnessModel.thrown()I -/
def t_M_thrown_0 (E : MEnv) (I : II) (T : TT) (Q : QQ) : Prop := Q (.inl (some (.int (I 46 0)))) I T
theorem s_M_thrown_0 {E : MEnv} {I : II} {T : TT} {Q : QQ} (hq : t_M_thrown_0 E I T Q) : ev E 76 0 [some (.ref 46)] [] I T Q := by
  unfold t_M_thrown_0 at hq
  refine ev_seq 2 (ip' := 2) (loc' := [some (.ref 46)]) (st' := [(.int (I 46 0))]) (I1 := I) (T1 := T) rfl ?_
  exact ev_ret rfl rfl hq
/-- FeltHarnessModel.thumb(III)I -/
def t_M_thumb_98 (E : MEnv) (I : II) (T : TT) (Q : QQ) (y0 : Int32) : Prop := Q (.inl (some (.int y0))) I T
theorem s_M_thumb_98 {E : MEnv} {I : II} {T : TT} {Q : QQ} {y0 : Int32} (hq : t_M_thumb_98 E I T Q y0) : ev E 266 98 [none, none, none, none, none, none, none, none, none] [(.int y0)] I T Q := by
  unfold t_M_thumb_98 at hq
  exact ev_ret rfl rfl hq
def t_M_thumb_84 (E : MEnv) (I : II) (T : TT) (Q : QQ) (x1 : Int32) (x2 : Int32) (x3 : Int32) (x4 : Int32) (x5 : Int32) (x6 : Int32) (x7 : Int32) (x8 : Int32) : Prop := ev E 266 41 [none, some (.int x1), some (.int x2), some (.int x3), some (.int x4), some (.int x5), some (.int x6), some (.int x7), some (.int (x8 + 1))] [] I T Q
theorem s_M_thumb_84 {E : MEnv} {I : II} {T : TT} {Q : QQ} {x1 : Int32} {x2 : Int32} {x3 : Int32} {x4 : Int32} {x5 : Int32} {x6 : Int32} {x7 : Int32} {x8 : Int32} (hq : t_M_thumb_84 E I T Q x1 x2 x3 x4 x5 x6 x7 x8) : ev E 266 84 [none, some (.int x1), some (.int x2), some (.int x3), some (.int x4), some (.int x5), some (.int x6), some (.int x7), some (.int x8)] [] I T Q := by
  unfold t_M_thumb_84 at hq
  refine ev_seq 2 (ip' := 41) (loc' := [none, some (.int x1), some (.int x2), some (.int x3), some (.int x4), some (.int x5), some (.int x6), some (.int x7), some (.int (x8 + 1))]) (st' := []) (I1 := I) (T1 := T) rfl ?_
  exact hq
def t_M_thumb_82 (E : MEnv) (I : II) (T : TT) (Q : QQ) (x1 : Int32) (x2 : Int32) (x3 : Int32) (x4 : Int32) (x6 : Int32) (x7 : Int32) (x8 : Int32) (y0 : Int32) : Prop := t_M_thumb_84 E I T Q x1 x2 x3 (x4 + 1) y0 x6 x7 x8
theorem s_M_thumb_82 {E : MEnv} {I : II} {T : TT} {Q : QQ} {x1 : Int32} {x2 : Int32} {x3 : Int32} {x4 : Int32} {x6 : Int32} {x7 : Int32} {x8 : Int32} {y0 : Int32} (hq : t_M_thumb_82 E I T Q x1 x2 x3 x4 x6 x7 x8 y0) : ev E 266 82 [none, some (.int x1), some (.int x2), some (.int x3), some (.int x4), none, some (.int x6), some (.int x7), some (.int x8)] [(.int y0)] I T Q := by
  unfold t_M_thumb_82 at hq
  refine ev_seq 2 (ip' := 84) (loc' := [none, some (.int x1), some (.int x2), some (.int x3), some (.int (x4 + 1)), some (.int y0), some (.int x6), some (.int x7), some (.int x8)]) (st' := []) (I1 := I) (T1 := T) rfl ?_
  exact s_M_thumb_84 (T := T) hq
def t_M_thumb_72 (E : MEnv) (I : II) (T : TT) (Q : QQ) (x1 : Int32) (x2 : Int32) (x3 : Int32) (x4 : Int32) (x5 : Int32) (x7 : Int32) (x8 : Int32) (y0 : Int32) : Prop := (x4 = 0 → (t_M_thumb_82 E I T Q x1 x2 x3 x4 y0 x7 x8 ((10 * x7) + x8))) ∧ (¬ (x4 = 0) → (t_M_thumb_82 E I T Q x1 x2 x3 x4 y0 x7 x8 x5))
theorem s_M_thumb_72 {E : MEnv} {I : II} {T : TT} {Q : QQ} {x1 : Int32} {x2 : Int32} {x3 : Int32} {x4 : Int32} {x5 : Int32} {x7 : Int32} {x8 : Int32} {y0 : Int32} (hq : t_M_thumb_72 E I T Q x1 x2 x3 x4 x5 x7 x8 y0) : ev E 266 72 [none, some (.int x1), some (.int x2), some (.int x3), some (.int x4), some (.int x5), none, some (.int x7), some (.int x8)] [(.int y0)] I T Q := by
  unfold t_M_thumb_72 at hq
  refine ev_seq 2 (ip' := 74) (loc' := [none, some (.int x1), some (.int x2), some (.int x3), some (.int x4), some (.int x5), some (.int y0), some (.int x7), some (.int x8)]) (st' := [(.int x4)]) (I1 := I) (T1 := T) rfl ?_
  refine ev_br (p := x4 = 0) (a := 75) (b := 81) (st' := []) inferInstance rfl rfl (fun hb => ?_) (fun hb => ?_)
  · have hq := hq.1 hb
    refine ev_seq 6 (ip' := 82) (loc' := [none, some (.int x1), some (.int x2), some (.int x3), some (.int x4), some (.int x5), some (.int y0), some (.int x7), some (.int x8)]) (st' := [(.int ((10 * x7) + x8))]) (I1 := I) (T1 := T) rfl ?_
    refine ev_fg [true, true, true, true, true, false, true, true, true] (loc' := [none, some (.int x1), some (.int x2), some (.int x3), some (.int x4), none, some (.int y0), some (.int x7), some (.int x8)]) rfl ?_
    exact s_M_thumb_82 (T := T) hq
  · have hq := hq.2 hb
    refine ev_seq 1 (ip' := 82) (loc' := [none, some (.int x1), some (.int x2), some (.int x3), some (.int x4), some (.int x5), some (.int y0), some (.int x7), some (.int x8)]) (st' := [(.int x5)]) (I1 := I) (T1 := T) rfl ?_
    refine ev_fg [true, true, true, true, true, false, true, true, true] (loc' := [none, some (.int x1), some (.int x2), some (.int x3), some (.int x4), none, some (.int y0), some (.int x7), some (.int x8)]) rfl ?_
    exact s_M_thumb_82 (T := T) hq
def t_M_thumb_41 (E : MEnv) (I : II) (T : TT) (Q : QQ) (x1 : Int32) (x2 : Int32) (x3 : Int32) (x4 : Int32) (x5 : Int32) (x6 : Int32) (x7 : Int32) (x8 : Int32) : Prop := (2 ≤ x8 → (ev E 266 36 [none, some (.int x1), some (.int x2), some (.int x3), some (.int x4), some (.int x5), some (.int x6), some (.int (x7 + 1)), none] [] I T Q)) ∧ (¬ (2 ≤ x8) → (ev E 267 0 [some (.int x7), some (.int x8), some (.int x1), some (.int x2)] [] I T (KI (fun v1 I1 T1 => (v1 = 0 → (t_M_thumb_84 E I1 T1 Q x1 x2 x3 x4 x5 x6 x7 x8)) ∧ (¬ (v1 = 0) → (ev E 267 0 [some (.int x8), some (.int x7), some (.int x1), some (.int x2)] [] I1 T1 (KI (fun v2 I2 T2 => (v2 = 0 → (t_M_thumb_84 E I2 T2 Q x1 x2 x3 x4 x5 x6 x7 x8)) ∧ (¬ (v2 = 0) → ((x4 = 0 → (ev E 268 0 [some (.int x7), some (.int x8), some (.int x1), some (.int x2)] [] I2 T2 (KI (fun v3 I3 T3 => ev E 268 0 [some (.int x8), some (.int x7), some (.int x1), some (.int x2)] [] I3 T3 (KI (fun v4 I4 T4 => t_M_thumb_72 E I4 T4 Q x1 x2 x3 x4 x5 x7 x8 (v3 + v4)) (fun _ _ _ => False))) (fun _ _ _ => False)))) ∧ (¬ (x4 = 0) → (t_M_thumb_72 E I2 T2 Q x1 x2 x3 x4 x5 x7 x8 x6))))) (fun _ _ _ => False))))) (fun _ _ _ => False))))
theorem s_M_thumb_41 {E : MEnv} {I : II} {T : TT} {Q : QQ} {x1 : Int32} {x2 : Int32} {x3 : Int32} {x4 : Int32} {x5 : Int32} {x6 : Int32} {x7 : Int32} {x8 : Int32} (hq : t_M_thumb_41 E I T Q x1 x2 x3 x4 x5 x6 x7 x8) : ev E 266 41 [none, some (.int x1), some (.int x2), some (.int x3), some (.int x4), some (.int x5), some (.int x6), some (.int x7), some (.int x8)] [] I T Q := by
  unfold t_M_thumb_41 at hq
  refine ev_seq 2 (ip' := 43) (loc' := [none, some (.int x1), some (.int x2), some (.int x3), some (.int x4), some (.int x5), some (.int x6), some (.int x7), some (.int x8)]) (st' := [(.int 2), (.int x8)]) (I1 := I) (T1 := T) rfl ?_
  refine ev_br (p := 2 ≤ x8) (a := 86) (b := 44) (st' := []) inferInstance rfl rfl (fun hb => ?_) (fun hb => ?_)
  · have hq := hq.1 hb
    refine ev_seq 2 (ip' := 36) (loc' := [none, some (.int x1), some (.int x2), some (.int x3), some (.int x4), some (.int x5), some (.int x6), some (.int (x7 + 1)), some (.int x8)]) (st' := []) (I1 := I) (T1 := T) rfl ?_
    refine ev_fg [true, true, true, true, true, true, true, true, false] (loc' := [none, some (.int x1), some (.int x2), some (.int x3), some (.int x4), some (.int x5), some (.int x6), some (.int (x7 + 1)), none]) rfl ?_
    exact hq
  · have hq := hq.2 hb
    refine ev_seq 4 (ip' := 48) (loc' := [none, some (.int x1), some (.int x2), some (.int x3), some (.int x4), some (.int x5), some (.int x6), some (.int x7), some (.int x8)]) (st' := [(.int x2), (.int x1), (.int x8), (.int x7)]) (I1 := I) (T1 := T) rfl ?_
    refine ev_callI rfl rfl rfl (fun v1 I1 T1 hq => ?_) (fun x I1 T1 hq => ?_) hq
    · refine ev_br (p := v1 = 0) (a := 84) (b := 50) (st' := []) inferInstance rfl rfl (fun hb => ?_) (fun hb => ?_)
      · have hq := hq.1 hb
        exact s_M_thumb_84 (T := T1) hq
      · have hq := hq.2 hb
        refine ev_seq 4 (ip' := 54) (loc' := [none, some (.int x1), some (.int x2), some (.int x3), some (.int x4), some (.int x5), some (.int x6), some (.int x7), some (.int x8)]) (st' := [(.int x2), (.int x1), (.int x7), (.int x8)]) (I1 := I1) (T1 := T1) rfl ?_
        refine ev_callI rfl rfl rfl (fun v2 I2 T2 hq => ?_) (fun x I1 T1 hq => ?_) hq
        · refine ev_br (p := v2 = 0) (a := 56) (b := 57) (st' := []) inferInstance rfl rfl (fun hb => ?_) (fun hb => ?_)
          · have hq := hq.1 hb
            refine ev_seq 1 (ip' := 84) (loc' := [none, some (.int x1), some (.int x2), some (.int x3), some (.int x4), some (.int x5), some (.int x6), some (.int x7), some (.int x8)]) (st' := []) (I1 := I2) (T1 := T2) rfl ?_
            exact s_M_thumb_84 (T := T2) hq
          · have hq := hq.2 hb
            refine ev_seq 1 (ip' := 58) (loc' := [none, some (.int x1), some (.int x2), some (.int x3), some (.int x4), some (.int x5), some (.int x6), some (.int x7), some (.int x8)]) (st' := [(.int x4)]) (I1 := I2) (T1 := T2) rfl ?_
            refine ev_br (p := x4 = 0) (a := 59) (b := 71) (st' := []) inferInstance rfl rfl (fun hb => ?_) (fun hb => ?_)
            · have hq := hq.1 hb
              refine ev_seq 4 (ip' := 63) (loc' := [none, some (.int x1), some (.int x2), some (.int x3), some (.int x4), some (.int x5), some (.int x6), some (.int x7), some (.int x8)]) (st' := [(.int x2), (.int x1), (.int x8), (.int x7)]) (I1 := I2) (T1 := T2) rfl ?_
              refine ev_callI rfl rfl rfl (fun v3 I3 T3 hq => ?_) (fun x I1 T1 hq => ?_) hq
              · refine ev_seq 4 (ip' := 68) (loc' := [none, some (.int x1), some (.int x2), some (.int x3), some (.int x4), some (.int x5), some (.int x6), some (.int x7), some (.int x8)]) (st' := [(.int x2), (.int x1), (.int x7), (.int x8), (.int v3)]) (I1 := I3) (T1 := T3) rfl ?_
                refine ev_callI rfl rfl rfl (fun v4 I4 T4 hq => ?_) (fun x I1 T1 hq => ?_) hq
                · refine ev_seq 2 (ip' := 72) (loc' := [none, some (.int x1), some (.int x2), some (.int x3), some (.int x4), some (.int x5), some (.int x6), some (.int x7), some (.int x8)]) (st' := [(.int (v3 + v4))]) (I1 := I4) (T1 := T4) rfl ?_
                  refine ev_fg [true, true, true, true, true, true, false, true, true] (loc' := [none, some (.int x1), some (.int x2), some (.int x3), some (.int x4), some (.int x5), none, some (.int x7), some (.int x8)]) rfl ?_
                  exact s_M_thumb_72 (T := T4) hq
                · exact hq.elim
              · exact hq.elim
            · have hq := hq.2 hb
              refine ev_seq 1 (ip' := 72) (loc' := [none, some (.int x1), some (.int x2), some (.int x3), some (.int x4), some (.int x5), some (.int x6), some (.int x7), some (.int x8)]) (st' := [(.int x6)]) (I1 := I2) (T1 := T2) rfl ?_
              refine ev_fg [true, true, true, true, true, true, false, true, true] (loc' := [none, some (.int x1), some (.int x2), some (.int x3), some (.int x4), some (.int x5), none, some (.int x7), some (.int x8)]) rfl ?_
              exact s_M_thumb_72 (T := T2) hq
        · exact hq.elim
    · exact hq.elim
def t_M_thumb_36 (E : MEnv) (I : II) (T : TT) (Q : QQ) (x1 : Int32) (x2 : Int32) (x3 : Int32) (x4 : Int32) (x5 : Int32) (x6 : Int32) (x7 : Int32) : Prop := (2 ≤ x7 → ((x3 = 0 → (t_M_thumb_98 E I T Q x4)) ∧ (¬ (x3 = 0) → ((x3 = 1 → (t_M_thumb_98 E I T Q x5)) ∧ (¬ (x3 = 1) → (t_M_thumb_98 E I T Q x6)))))) ∧ (¬ (2 ≤ x7) → (t_M_thumb_41 E I T Q x1 x2 x3 x4 x5 x6 x7 0))
theorem s_M_thumb_36 {E : MEnv} {I : II} {T : TT} {Q : QQ} {x1 : Int32} {x2 : Int32} {x3 : Int32} {x4 : Int32} {x5 : Int32} {x6 : Int32} {x7 : Int32} (hq : t_M_thumb_36 E I T Q x1 x2 x3 x4 x5 x6 x7) : ev E 266 36 [none, some (.int x1), some (.int x2), some (.int x3), some (.int x4), some (.int x5), some (.int x6), some (.int x7), none] [] I T Q := by
  unfold t_M_thumb_36 at hq
  refine ev_seq 2 (ip' := 38) (loc' := [none, some (.int x1), some (.int x2), some (.int x3), some (.int x4), some (.int x5), some (.int x6), some (.int x7), none]) (st' := [(.int 2), (.int x7)]) (I1 := I) (T1 := T) rfl ?_
  refine ev_br (p := 2 ≤ x7) (a := 88) (b := 39) (st' := []) inferInstance rfl rfl (fun hb => ?_) (fun hb => ?_)
  · have hq := hq.1 hb
    refine ev_seq 1 (ip' := 89) (loc' := [none, some (.int x1), some (.int x2), some (.int x3), some (.int x4), some (.int x5), some (.int x6), some (.int x7), none]) (st' := [(.int x3)]) (I1 := I) (T1 := T) rfl ?_
    refine ev_br (p := x3 = 0) (a := 90) (b := 92) (st' := []) inferInstance rfl rfl (fun hb => ?_) (fun hb => ?_)
    · have hq := hq.1 hb
      refine ev_seq 2 (ip' := 98) (loc' := [none, some (.int x1), some (.int x2), some (.int x3), some (.int x4), some (.int x5), some (.int x6), some (.int x7), none]) (st' := [(.int x4)]) (I1 := I) (T1 := T) rfl ?_
      refine ev_fg [true, false, false, false, false, false, false, false, true] (loc' := [none, none, none, none, none, none, none, none, none]) rfl ?_
      exact s_M_thumb_98 (T := T) hq
    · have hq := hq.2 hb
      refine ev_seq 2 (ip' := 94) (loc' := [none, some (.int x1), some (.int x2), some (.int x3), some (.int x4), some (.int x5), some (.int x6), some (.int x7), none]) (st' := [(.int 1), (.int x3)]) (I1 := I) (T1 := T) rfl ?_
      refine ev_br (p := x3 = 1) (a := 95) (b := 97) (st' := []) inferInstance rfl rfl (fun hb => ?_) (fun hb => ?_)
      · have hq := hq.1 hb
        refine ev_seq 2 (ip' := 98) (loc' := [none, some (.int x1), some (.int x2), some (.int x3), some (.int x4), some (.int x5), some (.int x6), some (.int x7), none]) (st' := [(.int x5)]) (I1 := I) (T1 := T) rfl ?_
        refine ev_fg [true, false, false, false, false, false, false, false, true] (loc' := [none, none, none, none, none, none, none, none, none]) rfl ?_
        exact s_M_thumb_98 (T := T) hq
      · have hq := hq.2 hb
        refine ev_seq 1 (ip' := 98) (loc' := [none, some (.int x1), some (.int x2), some (.int x3), some (.int x4), some (.int x5), some (.int x6), some (.int x7), none]) (st' := [(.int x6)]) (I1 := I) (T1 := T) rfl ?_
        refine ev_fg [true, false, false, false, false, false, false, false, true] (loc' := [none, none, none, none, none, none, none, none, none]) rfl ?_
        exact s_M_thumb_98 (T := T) hq
  · have hq := hq.2 hb
    refine ev_seq 2 (ip' := 41) (loc' := [none, some (.int x1), some (.int x2), some (.int x3), some (.int x4), some (.int x5), some (.int x6), some (.int x7), some (.int 0)]) (st' := []) (I1 := I) (T1 := T) rfl ?_
    exact s_M_thumb_41 (T := T) hq
def t_M_thumb_22 (E : MEnv) (I : II) (T : TT) (Q : QQ) (x1 : Int32) (x2 : Int32) (x3 : Int32) (y1 : Int32) : Prop := ev E 58 0 [some (.ref 46), some (.int y1), some (.int 1), some (.int 1)] [] I T (KI (fun v1 I1 T1 => (v1 = 0 → (t_M_thumb_36 E I1 T1 Q x1 x2 x3 0 (-1) 0 0)) ∧ (¬ (v1 = 0) → (Q (.inl (some (.int 0))) I1 T1))) (fun x I1 T1 => Q (.inr x) I1 T1))
theorem s_M_thumb_22 {E : MEnv} {I : II} {T : TT} {Q : QQ} {x1 : Int32} {x2 : Int32} {x3 : Int32} {y1 : Int32} (hq : t_M_thumb_22 E I T Q x1 x2 x3 y1) : ev E 266 22 [none, some (.int x1), some (.int x2), some (.int x3), none, none, none, none, none] [(.int y1), (.ref 46)] I T Q := by
  unfold t_M_thumb_22 at hq
  refine ev_seq 2 (ip' := 24) (loc' := [none, some (.int x1), some (.int x2), some (.int x3), none, none, none, none, none]) (st' := [(.int 1), (.int 1), (.int y1), (.ref 46)]) (I1 := I) (T1 := T) rfl ?_
  refine ev_callI rfl rfl rfl (fun v1 I1 T1 hq => ?_) (fun x I1 T1 hq => ?_) hq
  · refine ev_br (p := v1 = 0) (a := 28) (b := 26) (st' := []) inferInstance rfl rfl (fun hb => ?_) (fun hb => ?_)
    · have hq := hq.1 hb
      refine ev_seq 8 (ip' := 36) (loc' := [none, some (.int x1), some (.int x2), some (.int x3), some (.int 0), some (.int (-1)), some (.int 0), some (.int 0), none]) (st' := []) (I1 := I1) (T1 := T1) rfl ?_
      exact s_M_thumb_36 (T := T1) hq
    · have hq := hq.2 hb
      refine ev_seq 1 (ip' := 27) (loc' := [none, some (.int x1), some (.int x2), some (.int x3), none, none, none, none, none]) (st' := [(.int 0)]) (I1 := I1) (T1 := T1) rfl ?_
      exact ev_ret rfl rfl hq
  · exact ⟨by decide, hq⟩
def t_M_thumb_19 (E : MEnv) (I : II) (T : TT) (Q : QQ) (x1 : Int32) (x2 : Int32) (x3 : Int32) : Prop := t_M_thumb_22 E I T Q x1 x2 x3 1
theorem s_M_thumb_19 {E : MEnv} {I : II} {T : TT} {Q : QQ} {x1 : Int32} {x2 : Int32} {x3 : Int32} (hq : t_M_thumb_19 E I T Q x1 x2 x3) : ev E 266 19 [none, some (.int x1), some (.int x2), some (.int x3), none, none, none, none, none] [(.ref 46)] I T Q := by
  unfold t_M_thumb_19 at hq
  refine ev_seq 2 (ip' := 22) (loc' := [none, some (.int x1), some (.int x2), some (.int x3), none, none, none, none, none]) (st' := [(.int 1), (.ref 46)]) (I1 := I) (T1 := T) rfl ?_
  exact s_M_thumb_22 (T := T) hq
def t_M_thumb_0 (E : MEnv) (I : II) (T : TT) (Q : QQ) (x1 : Int32) (x2 : Int32) (x3 : Int32) : Prop := ev E 57 0 [some (.int x1), some (.int 0), some (.int 99)] [] (m_up I 46 0 0) T (KI (fun v1 I1 T1 => (v1 = 0 → (t_M_thumb_19 E I1 T1 Q x1 x2 x3)) ∧ (¬ (v1 = 0) → (ev E 57 0 [some (.int x2), some (.int 0), some (.int 99)] [] I1 T1 (KI (fun v2 I2 T2 => (v2 = 0 → (t_M_thumb_19 E I2 T2 Q x1 x2 x3)) ∧ (¬ (v2 = 0) → (ev E 57 0 [some (.int x3), some (.int 0), some (.int 2)] [] I2 T2 (KI (fun v3 I3 T3 => (v3 = 0 → (t_M_thumb_19 E I3 T3 Q x1 x2 x3)) ∧ (¬ (v3 = 0) → (t_M_thumb_22 E I3 T3 Q x1 x2 x3 0))) (fun _ _ _ => False))))) (fun _ _ _ => False))))) (fun _ _ _ => False))
theorem s_M_thumb_0 {E : MEnv} {I : II} {T : TT} {Q : QQ} {x1 : Int32} {x2 : Int32} {x3 : Int32} (hq : t_M_thumb_0 E I T Q x1 x2 x3) : ev E 266 0 [some (.ref 46), some (.int x1), some (.int x2), some (.int x3), none, none, none, none, none] [] I T Q := by
  unfold t_M_thumb_0 at hq
  refine ev_seq 7 (ip' := 7) (loc' := [some (.ref 46), some (.int x1), some (.int x2), some (.int x3), none, none, none, none, none]) (st' := [(.int 99), (.int 0), (.int x1), (.ref 46)]) (I1 := m_up I 46 0 0) (T1 := T) rfl ?_
  refine ev_callI rfl rfl rfl (fun v1 I1 T1 hq => ?_) (fun x I1 T1 hq => ?_) hq
  · refine ev_br (p := v1 = 0) (a := 19) (b := 9) (st' := [(.ref 46)]) inferInstance rfl rfl (fun hb => ?_) (fun hb => ?_)
    · have hq := hq.1 hb
      refine ev_fg [false, true, true, true, true, true, true, true, true] (loc' := [none, some (.int x1), some (.int x2), some (.int x3), none, none, none, none, none]) rfl ?_
      exact s_M_thumb_19 (T := T1) hq
    · have hq := hq.2 hb
      refine ev_seq 3 (ip' := 12) (loc' := [some (.ref 46), some (.int x1), some (.int x2), some (.int x3), none, none, none, none, none]) (st' := [(.int 99), (.int 0), (.int x2), (.ref 46)]) (I1 := I1) (T1 := T1) rfl ?_
      refine ev_callI rfl rfl rfl (fun v2 I2 T2 hq => ?_) (fun x I1 T1 hq => ?_) hq
      · refine ev_br (p := v2 = 0) (a := 19) (b := 14) (st' := [(.ref 46)]) inferInstance rfl rfl (fun hb => ?_) (fun hb => ?_)
        · have hq := hq.1 hb
          refine ev_fg [false, true, true, true, true, true, true, true, true] (loc' := [none, some (.int x1), some (.int x2), some (.int x3), none, none, none, none, none]) rfl ?_
          exact s_M_thumb_19 (T := T2) hq
        · have hq := hq.2 hb
          refine ev_seq 3 (ip' := 17) (loc' := [some (.ref 46), some (.int x1), some (.int x2), some (.int x3), none, none, none, none, none]) (st' := [(.int 2), (.int 0), (.int x3), (.ref 46)]) (I1 := I2) (T1 := T2) rfl ?_
          refine ev_callI rfl rfl rfl (fun v3 I3 T3 hq => ?_) (fun x I1 T1 hq => ?_) hq
          · refine ev_br (p := v3 = 0) (a := 19) (b := 21) (st' := [(.ref 46)]) inferInstance rfl rfl (fun hb => ?_) (fun hb => ?_)
            · have hq := hq.1 hb
              refine ev_fg [false, true, true, true, true, true, true, true, true] (loc' := [none, some (.int x1), some (.int x2), some (.int x3), none, none, none, none, none]) rfl ?_
              exact s_M_thumb_19 (T := T3) hq
            · have hq := hq.2 hb
              refine ev_seq 1 (ip' := 22) (loc' := [some (.ref 46), some (.int x1), some (.int x2), some (.int x3), none, none, none, none, none]) (st' := [(.int 0), (.ref 46)]) (I1 := I3) (T1 := T3) rfl ?_
              refine ev_fg [false, true, true, true, true, true, true, true, true] (loc' := [none, some (.int x1), some (.int x2), some (.int x3), none, none, none, none, none]) rfl ?_
              exact s_M_thumb_22 (T := T3) hq
          · exact hq.elim
      · exact hq.elim
  · exact hq.elim
/-- FeltHarnessModel.tiltOf([I)I -/
def t_M_tiltOf_508_11 (E : MEnv) (I : II) (T : TT) (Q : QQ) (y0 : Int32) : Prop := Q (.inl (some (.int y0))) I T
theorem s_M_tiltOf_508_11 {E : MEnv} {I : II} {T : TT} {Q : QQ} {y0 : Int32} (hq : t_M_tiltOf_508_11 E I T Q y0) : ev E 164 11 [none, none, none] [(.int y0)] I T Q := by
  unfold t_M_tiltOf_508_11 at hq
  exact ev_ret rfl rfl hq
def t_M_tiltOf_508_0 (E : MEnv) (I : II) (T : TT) (Q : QQ) : Prop := ev E 156 0 [some (.ref 46), some (.ref 508), some (.int 0), none, none, none, none] [] I T (KI (fun v1 I1 T1 => (0 ≤ v1 → (t_M_tiltOf_508_11 E I1 T1 Q v1)) ∧ (¬ (0 ≤ v1) → (t_M_tiltOf_508_11 E I1 T1 Q (0 - v1)))) (fun x I1 T1 => Q (.inr x) I1 T1))
theorem s_M_tiltOf_508_0 {E : MEnv} {I : II} {T : TT} {Q : QQ} (hq : t_M_tiltOf_508_0 E I T Q) : ev E 164 0 [some (.ref 46), some (.ref 508), none] [] I T Q := by
  unfold t_M_tiltOf_508_0 at hq
  refine ev_seq 3 (ip' := 3) (loc' := [some (.ref 46), some (.ref 508), none]) (st' := [(.int 0), (.ref 508), (.ref 46)]) (I1 := I) (T1 := T) rfl ?_
  refine ev_callI rfl rfl rfl (fun v1 I1 T1 hq => ?_) (fun x I1 T1 hq => ?_) hq
  · refine ev_seq 2 (ip' := 6) (loc' := [some (.ref 46), some (.ref 508), some (.int v1)]) (st' := [(.int v1)]) (I1 := I1) (T1 := T1) rfl ?_
    refine ev_br (p := 0 ≤ v1) (a := 10) (b := 7) (st' := []) inferInstance rfl rfl (fun hb => ?_) (fun hb => ?_)
    · have hq := hq.1 hb
      refine ev_seq 1 (ip' := 11) (loc' := [some (.ref 46), some (.ref 508), some (.int v1)]) (st' := [(.int v1)]) (I1 := I1) (T1 := T1) rfl ?_
      refine ev_fg [false, false, false] (loc' := [none, none, none]) rfl ?_
      exact s_M_tiltOf_508_11 (T := T1) hq
    · have hq := hq.2 hb
      refine ev_seq 3 (ip' := 11) (loc' := [some (.ref 46), some (.ref 508), some (.int v1)]) (st' := [(.int (0 - v1))]) (I1 := I1) (T1 := T1) rfl ?_
      refine ev_fg [false, false, false] (loc' := [none, none, none]) rfl ?_
      exact s_M_tiltOf_508_11 (T := T1) hq
  · exact ⟨by decide, hq⟩
/-- FeltHarnessModel.tiltOf([I)I -/
def t_M_tiltOf_509_11 (E : MEnv) (I : II) (T : TT) (Q : QQ) (y0 : Int32) : Prop := Q (.inl (some (.int y0))) I T
theorem s_M_tiltOf_509_11 {E : MEnv} {I : II} {T : TT} {Q : QQ} {y0 : Int32} (hq : t_M_tiltOf_509_11 E I T Q y0) : ev E 164 11 [none, none, none] [(.int y0)] I T Q := by
  unfold t_M_tiltOf_509_11 at hq
  exact ev_ret rfl rfl hq
def t_M_tiltOf_509_0 (E : MEnv) (I : II) (T : TT) (Q : QQ) : Prop := ev E 156 0 [some (.ref 46), some (.ref 509), some (.int 0), none, none, none, none] [] I T (KI (fun v1 I1 T1 => (0 ≤ v1 → (t_M_tiltOf_509_11 E I1 T1 Q v1)) ∧ (¬ (0 ≤ v1) → (t_M_tiltOf_509_11 E I1 T1 Q (0 - v1)))) (fun x I1 T1 => Q (.inr x) I1 T1))
theorem s_M_tiltOf_509_0 {E : MEnv} {I : II} {T : TT} {Q : QQ} (hq : t_M_tiltOf_509_0 E I T Q) : ev E 164 0 [some (.ref 46), some (.ref 509), none] [] I T Q := by
  unfold t_M_tiltOf_509_0 at hq
  refine ev_seq 3 (ip' := 3) (loc' := [some (.ref 46), some (.ref 509), none]) (st' := [(.int 0), (.ref 509), (.ref 46)]) (I1 := I) (T1 := T) rfl ?_
  refine ev_callI rfl rfl rfl (fun v1 I1 T1 hq => ?_) (fun x I1 T1 hq => ?_) hq
  · refine ev_seq 2 (ip' := 6) (loc' := [some (.ref 46), some (.ref 509), some (.int v1)]) (st' := [(.int v1)]) (I1 := I1) (T1 := T1) rfl ?_
    refine ev_br (p := 0 ≤ v1) (a := 10) (b := 7) (st' := []) inferInstance rfl rfl (fun hb => ?_) (fun hb => ?_)
    · have hq := hq.1 hb
      refine ev_seq 1 (ip' := 11) (loc' := [some (.ref 46), some (.ref 509), some (.int v1)]) (st' := [(.int v1)]) (I1 := I1) (T1 := T1) rfl ?_
      refine ev_fg [false, false, false] (loc' := [none, none, none]) rfl ?_
      exact s_M_tiltOf_509_11 (T := T1) hq
    · have hq := hq.2 hb
      refine ev_seq 3 (ip' := 11) (loc' := [some (.ref 46), some (.ref 509), some (.int v1)]) (st' := [(.int (0 - v1))]) (I1 := I1) (T1 := T1) rfl ?_
      refine ev_fg [false, false, false] (loc' := [none, none, none]) rfl ?_
      exact s_M_tiltOf_509_11 (T := T1) hq
  · exact ⟨by decide, hq⟩
/-- FeltHarnessModel.tires([III)V -/
def t_M_tires_508_0 (E : MEnv) (I : II) (T : TT) (Q : QQ) (x1 : Int32) (x2 : Int32) : Prop := (¬ (16 + x1) < 0 ∧ (16 + x1).toNatClampNeg < 29) ∧ (ev E 162 0 [some (.int 999), some (.int ((I 508 (16 + x1).toNatClampNeg) + x2))] [] I T (KI (fun v1 I1 T1 => (¬ (16 + x1) < 0 ∧ (16 + x1).toNatClampNeg < 29) ∧ (Q (.inl none) (m_up I1 508 (16 + x1).toNatClampNeg v1) T1)) (fun _ _ _ => False)))
theorem s_M_tires_508_0 {E : MEnv} {I : II} {T : TT} {Q : QQ} {x1 : Int32} {x2 : Int32} (hq : t_M_tires_508_0 E I T Q x1 x2) : ev E 167 0 [some (.ref 508), some (.int x1), some (.int x2)] [] I T Q := by
  unfold t_M_tires_508_0 at hq
  refine ev_seq 9 (ip' := 9) (loc' := [some (.ref 508), some (.int x1), some (.int x2)]) (st' := [(.int (16 + x1)), (.ref 508), (.int 999), (.int (16 + x1)), (.ref 508)]) (I1 := I) (T1 := T) rfl ?_
  obtain ⟨hg, hq⟩ := hq
  refine ev_iald rfl rfl hg ?_
  refine ev_seq 2 (ip' := 12) (loc' := [some (.ref 508), some (.int x1), some (.int x2)]) (st' := [(.int ((I 508 (16 + x1).toNatClampNeg) + x2)), (.int 999), (.int (16 + x1)), (.ref 508)]) (I1 := I) (T1 := T) rfl ?_
  refine ev_callI rfl rfl rfl (fun v1 I1 T1 hq => ?_) (fun x I1 T1 hq => ?_) hq
  · obtain ⟨hg, hq⟩ := hq
    refine ev_iast rfl rfl hg ?_
    exact ev_ret rfl rfl hq
  · exact hq.elim
/-- FeltHarnessModel.tires([III)V -/
def t_M_tires_509_0 (E : MEnv) (I : II) (T : TT) (Q : QQ) (x1 : Int32) (x2 : Int32) : Prop := (¬ (16 + x1) < 0 ∧ (16 + x1).toNatClampNeg < 29) ∧ (ev E 162 0 [some (.int 999), some (.int ((I 509 (16 + x1).toNatClampNeg) + x2))] [] I T (KI (fun v1 I1 T1 => (¬ (16 + x1) < 0 ∧ (16 + x1).toNatClampNeg < 29) ∧ (Q (.inl none) (m_up I1 509 (16 + x1).toNatClampNeg v1) T1)) (fun _ _ _ => False)))
theorem s_M_tires_509_0 {E : MEnv} {I : II} {T : TT} {Q : QQ} {x1 : Int32} {x2 : Int32} (hq : t_M_tires_509_0 E I T Q x1 x2) : ev E 167 0 [some (.ref 509), some (.int x1), some (.int x2)] [] I T Q := by
  unfold t_M_tires_509_0 at hq
  refine ev_seq 9 (ip' := 9) (loc' := [some (.ref 509), some (.int x1), some (.int x2)]) (st' := [(.int (16 + x1)), (.ref 509), (.int 999), (.int (16 + x1)), (.ref 509)]) (I1 := I) (T1 := T) rfl ?_
  obtain ⟨hg, hq⟩ := hq
  refine ev_iald rfl rfl hg ?_
  refine ev_seq 2 (ip' := 12) (loc' := [some (.ref 509), some (.int x1), some (.int x2)]) (st' := [(.int ((I 509 (16 + x1).toNatClampNeg) + x2)), (.int 999), (.int (16 + x1)), (.ref 509)]) (I1 := I) (T1 := T) rfl ?_
  refine ev_callI rfl rfl rfl (fun v1 I1 T1 hq => ?_) (fun x I1 T1 hq => ?_) hq
  · obtain ⟨hg, hq⟩ := hq
    refine ev_iast rfl rfl hg ?_
    exact ev_ret rfl rfl hq
  · exact hq.elim
/-- FeltHarnessModel.told(I)I -/
def t_M_told_12 (E : MEnv) (I : II) (T : TT) (Q : QQ) (x1 : Int32) (y1 : Int32) : Prop := ev E 58 0 [some (.ref 46), some (.int y1), some (.int 1), some (.int 1)] [] I T (KI (fun v1 I1 T1 => (v1 = 0 → (ev E 185 (m_tsw 0 11 [20, 20, 25, 30, 35, 40, 46, 51, 56, 61, 66, 69] 72 x1) [some (.ref 46), some (.int x1)] [] I1 T1 Q)) ∧ (¬ (v1 = 0) → (Q (.inl (some (.int 0))) I1 T1))) (fun x I1 T1 => Q (.inr x) I1 T1))
theorem s_M_told_12 {E : MEnv} {I : II} {T : TT} {Q : QQ} {x1 : Int32} {y1 : Int32} (hq : t_M_told_12 E I T Q x1 y1) : ev E 185 12 [some (.ref 46), some (.int x1)] [(.int y1), (.ref 46)] I T Q := by
  unfold t_M_told_12 at hq
  refine ev_seq 2 (ip' := 14) (loc' := [some (.ref 46), some (.int x1)]) (st' := [(.int 1), (.int 1), (.int y1), (.ref 46)]) (I1 := I) (T1 := T) rfl ?_
  refine ev_callI rfl rfl rfl (fun v1 I1 T1 hq => ?_) (fun x I1 T1 hq => ?_) hq
  · refine ev_br (p := v1 = 0) (a := 18) (b := 16) (st' := []) inferInstance rfl rfl (fun hb => ?_) (fun hb => ?_)
    · have hq := hq.1 hb
      refine ev_seq 1 (ip' := 19) (loc' := [some (.ref 46), some (.int x1)]) (st' := [(.int x1)]) (I1 := I1) (T1 := T1) rfl ?_
      refine ev_jp rfl rfl ?_
      exact hq
    · have hq := hq.2 hb
      refine ev_seq 1 (ip' := 17) (loc' := [some (.ref 46), some (.int x1)]) (st' := [(.int 0)]) (I1 := I1) (T1 := T1) rfl ?_
      exact ev_ret rfl rfl hq
  · exact ⟨by decide, hq⟩
def t_M_told_0 (E : MEnv) (I : II) (T : TT) (Q : QQ) (x1 : Int32) : Prop := ev E 57 0 [some (.int x1), some (.int 0), some (.int 12)] [] (m_up I 46 0 0) T (KI (fun v1 I1 T1 => (v1 = 0 → (t_M_told_12 E I1 T1 Q x1 1)) ∧ (¬ (v1 = 0) → (t_M_told_12 E I1 T1 Q x1 0))) (fun _ _ _ => False))
theorem s_M_told_0 {E : MEnv} {I : II} {T : TT} {Q : QQ} {x1 : Int32} (hq : t_M_told_0 E I T Q x1) : ev E 185 0 [some (.ref 46), some (.int x1)] [] I T Q := by
  unfold t_M_told_0 at hq
  refine ev_seq 7 (ip' := 7) (loc' := [some (.ref 46), some (.int x1)]) (st' := [(.int 12), (.int 0), (.int x1), (.ref 46)]) (I1 := m_up I 46 0 0) (T1 := T) rfl ?_
  refine ev_callI rfl rfl rfl (fun v1 I1 T1 hq => ?_) (fun x I1 T1 hq => ?_) hq
  · refine ev_br (p := v1 = 0) (a := 9) (b := 11) (st' := [(.ref 46)]) inferInstance rfl rfl (fun hb => ?_) (fun hb => ?_)
    · have hq := hq.1 hb
      refine ev_seq 2 (ip' := 12) (loc' := [some (.ref 46), some (.int x1)]) (st' := [(.int 1), (.ref 46)]) (I1 := I1) (T1 := T1) rfl ?_
      exact s_M_told_12 (T := T1) hq
    · have hq := hq.2 hb
      refine ev_seq 1 (ip' := 12) (loc' := [some (.ref 46), some (.int x1)]) (st' := [(.int 0), (.ref 46)]) (I1 := I1) (T1 := T1) rfl ?_
      exact s_M_told_12 (T := T1) hq
  · exact hq.elim
def t_M_told_20 (E : MEnv) (I : II) (T : TT) (Q : QQ) (x1 : Int32) : Prop := (¬ x1 < 0 ∧ x1.toNatClampNeg < 3) ∧ (Q (.inl (some (.int (I 50 x1.toNatClampNeg)))) I T)
theorem s_M_told_20 {E : MEnv} {I : II} {T : TT} {Q : QQ} {x1 : Int32} (hq : t_M_told_20 E I T Q x1) : ev E 185 20 [some (.ref 46), some (.int x1)] [] I T Q := by
  unfold t_M_told_20 at hq
  refine ev_seq 3 (ip' := 23) (loc' := [some (.ref 46), some (.int x1)]) (st' := [(.int x1), (.ref 50)]) (I1 := I) (T1 := T) rfl ?_
  obtain ⟨hg, hq⟩ := hq
  refine ev_iald rfl rfl hg ?_
  exact ev_ret rfl rfl hq
def t_M_told_25 (E : MEnv) (I : II) (T : TT) (Q : QQ) : Prop := Q (.inl (some (.int (I 508 24)))) I T
theorem s_M_told_25 {E : MEnv} {I : II} {T : TT} {Q : QQ} (hq : t_M_told_25 E I T Q) : ev E 185 25 [some (.ref 46), none] [] I T Q := by
  unfold t_M_told_25 at hq
  refine ev_seq 4 (ip' := 29) (loc' := [some (.ref 46), none]) (st' := [(.int (I 508 24))]) (I1 := I) (T1 := T) rfl ?_
  exact ev_ret rfl rfl hq
def t_M_told_30 (E : MEnv) (I : II) (T : TT) (Q : QQ) : Prop := Q (.inl (some (.int (I 508 25)))) I T
theorem s_M_told_30 {E : MEnv} {I : II} {T : TT} {Q : QQ} (hq : t_M_told_30 E I T Q) : ev E 185 30 [some (.ref 46), none] [] I T Q := by
  unfold t_M_told_30 at hq
  refine ev_seq 4 (ip' := 34) (loc' := [some (.ref 46), none]) (st' := [(.int (I 508 25))]) (I1 := I) (T1 := T) rfl ?_
  exact ev_ret rfl rfl hq
def t_M_told_35 (E : MEnv) (I : II) (T : TT) (Q : QQ) : Prop := ev E 152 0 [some (.ref 46), some (.ref 508), none, none] [] I T (KI (fun v1 I1 T1 => Q (.inl (some (.int v1))) I1 T1) (fun x I1 T1 => Q (.inr x) I1 T1))
theorem s_M_told_35 {E : MEnv} {I : II} {T : TT} {Q : QQ} (hq : t_M_told_35 E I T Q) : ev E 185 35 [some (.ref 46), none] [] I T Q := by
  unfold t_M_told_35 at hq
  refine ev_seq 3 (ip' := 38) (loc' := [some (.ref 46), none]) (st' := [(.ref 508), (.ref 46)]) (I1 := I) (T1 := T) rfl ?_
  refine ev_callI rfl rfl rfl (fun v1 I1 T1 hq => ?_) (fun x I1 T1 hq => ?_) hq
  · exact ev_ret rfl rfl hq
  · exact ⟨by decide, hq⟩
def t_M_told_40 (E : MEnv) (I : II) (T : TT) (Q : QQ) : Prop := ev E 156 0 [some (.ref 46), some (.ref 508), some (.int 1), none, none, none, none] [] I T (KI (fun v1 I1 T1 => Q (.inl (some (.int v1))) I1 T1) (fun x I1 T1 => Q (.inr x) I1 T1))
theorem s_M_told_40 {E : MEnv} {I : II} {T : TT} {Q : QQ} (hq : t_M_told_40 E I T Q) : ev E 185 40 [some (.ref 46), none] [] I T Q := by
  unfold t_M_told_40 at hq
  refine ev_seq 4 (ip' := 44) (loc' := [some (.ref 46), none]) (st' := [(.int 1), (.ref 508), (.ref 46)]) (I1 := I) (T1 := T) rfl ?_
  refine ev_callI rfl rfl rfl (fun v1 I1 T1 hq => ?_) (fun x I1 T1 hq => ?_) hq
  · exact ev_ret rfl rfl hq
  · exact ⟨by decide, hq⟩
def t_M_told_46 (E : MEnv) (I : II) (T : TT) (Q : QQ) : Prop := ev E 164 0 [some (.ref 46), some (.ref 508), none] [] I T (KI (fun v1 I1 T1 => Q (.inl (some (.int v1))) I1 T1) (fun x I1 T1 => Q (.inr x) I1 T1))
theorem s_M_told_46 {E : MEnv} {I : II} {T : TT} {Q : QQ} (hq : t_M_told_46 E I T Q) : ev E 185 46 [some (.ref 46), none] [] I T Q := by
  unfold t_M_told_46 at hq
  refine ev_seq 3 (ip' := 49) (loc' := [some (.ref 46), none]) (st' := [(.ref 508), (.ref 46)]) (I1 := I) (T1 := T) rfl ?_
  refine ev_callI rfl rfl rfl (fun v1 I1 T1 hq => ?_) (fun x I1 T1 hq => ?_) hq
  · exact ev_ret rfl rfl hq
  · exact ⟨by decide, hq⟩
def t_M_told_51 (E : MEnv) (I : II) (T : TT) (Q : QQ) : Prop := Q (.inl (some (.int (I 508 26)))) I T
theorem s_M_told_51 {E : MEnv} {I : II} {T : TT} {Q : QQ} (hq : t_M_told_51 E I T Q) : ev E 185 51 [some (.ref 46), none] [] I T Q := by
  unfold t_M_told_51 at hq
  refine ev_seq 4 (ip' := 55) (loc' := [some (.ref 46), none]) (st' := [(.int (I 508 26))]) (I1 := I) (T1 := T) rfl ?_
  exact ev_ret rfl rfl hq
def t_M_told_56 (E : MEnv) (I : II) (T : TT) (Q : QQ) : Prop := Q (.inl (some (.int (I 508 27)))) I T
theorem s_M_told_56 {E : MEnv} {I : II} {T : TT} {Q : QQ} (hq : t_M_told_56 E I T Q) : ev E 185 56 [some (.ref 46), none] [] I T Q := by
  unfold t_M_told_56 at hq
  refine ev_seq 4 (ip' := 60) (loc' := [some (.ref 46), none]) (st' := [(.int (I 508 27))]) (I1 := I) (T1 := T) rfl ?_
  exact ev_ret rfl rfl hq
def t_M_told_61 (E : MEnv) (I : II) (T : TT) (Q : QQ) : Prop := Q (.inl (some (.int (I 508 28)))) I T
theorem s_M_told_61 {E : MEnv} {I : II} {T : TT} {Q : QQ} (hq : t_M_told_61 E I T Q) : ev E 185 61 [some (.ref 46), none] [] I T Q := by
  unfold t_M_told_61 at hq
  refine ev_seq 4 (ip' := 65) (loc' := [some (.ref 46), none]) (st' := [(.int (I 508 28))]) (I1 := I) (T1 := T) rfl ?_
  exact ev_ret rfl rfl hq
def t_M_told_66 (E : MEnv) (I : II) (T : TT) (Q : QQ) : Prop := Q (.inl (some (.int (I 46 33)))) I T
theorem s_M_told_66 {E : MEnv} {I : II} {T : TT} {Q : QQ} (hq : t_M_told_66 E I T Q) : ev E 185 66 [some (.ref 46), none] [] I T Q := by
  unfold t_M_told_66 at hq
  refine ev_seq 2 (ip' := 68) (loc' := [some (.ref 46), none]) (st' := [(.int (I 46 33))]) (I1 := I) (T1 := T) rfl ?_
  exact ev_ret rfl rfl hq
def t_M_told_69 (E : MEnv) (I : II) (T : TT) (Q : QQ) : Prop := Q (.inl (some (.int (I 46 35)))) I T
theorem s_M_told_69 {E : MEnv} {I : II} {T : TT} {Q : QQ} (hq : t_M_told_69 E I T Q) : ev E 185 69 [some (.ref 46), none] [] I T Q := by
  unfold t_M_told_69 at hq
  refine ev_seq 2 (ip' := 71) (loc' := [some (.ref 46), none]) (st' := [(.int (I 46 35))]) (I1 := I) (T1 := T) rfl ?_
  exact ev_ret rfl rfl hq
def t_M_told_72 (E : MEnv) (I : II) (T : TT) (Q : QQ) : Prop := Q (.inl (some (.int (I 50 2)))) I T
theorem s_M_told_72 {E : MEnv} {I : II} {T : TT} {Q : QQ} (hq : t_M_told_72 E I T Q) : ev E 185 72 [some (.ref 46), none] [] I T Q := by
  unfold t_M_told_72 at hq
  refine ev_seq 4 (ip' := 76) (loc' := [some (.ref 46), none]) (st' := [(.int (I 50 2))]) (I1 := I) (T1 := T) rfl ?_
  exact ev_ret rfl rfl hq
/-- FeltHarnessModel.undo()I -/
def t_M_undo_0 (E : MEnv) (I : II) (T : TT) (Q : QQ) : Prop := (((m_up I 46 0 0) 46 34) = 0 → (Q (.inl (some (.int (-1)))) (m_up I 46 0 0) T)) ∧ (¬ (((m_up I 46 0 0) 46 34) = 0) → ((¬ ((m_up (m_up I 46 0 0) 46 34 (((m_up I 46 0 0) 46 34) - 1)) 46 34) < 0 ∧ ((m_up (m_up I 46 0 0) 46 34 (((m_up I 46 0 0) 46 34) - 1)) 46 34).toNatClampNeg < 16) ∧ (ev E 147 0 [some (.ref (511 + ((m_up (m_up I 46 0 0) 46 34 (((m_up I 46 0 0) 46 34) - 1)) 46 34).toNatClampNeg)), some (.ref 508), none] [] (m_up (m_up I 46 0 0) 46 34 (((m_up I 46 0 0) 46 34) - 1)) T (KV (fun I2 T2 => Q (.inl (some (.int ((m_up I2 46 35 0) 46 34)))) (m_up I2 46 35 0) T2) (fun _ _ _ => False)))))
theorem s_M_undo_0 {E : MEnv} {I : II} {T : TT} {Q : QQ} (hq : t_M_undo_0 E I T Q) : ev E 179 0 [some (.ref 46)] [] I T Q := by
  unfold t_M_undo_0 at hq
  refine ev_seq 5 (ip' := 5) (loc' := [some (.ref 46)]) (st' := [(.int ((m_up I 46 0 0) 46 34))]) (I1 := m_up I 46 0 0) (T1 := T) rfl ?_
  refine ev_br (p := ((m_up I 46 0 0) 46 34) = 0) (a := 6) (b := 8) (st' := []) inferInstance rfl rfl (fun hb => ?_) (fun hb => ?_)
  · have hq := hq.1 hb
    refine ev_seq 1 (ip' := 7) (loc' := [some (.ref 46)]) (st' := [(.int (-1))]) (I1 := m_up I 46 0 0) (T1 := T) rfl ?_
    exact ev_ret rfl rfl hq
  · have hq := hq.2 hb
    refine ev_seq 10 (ip' := 18) (loc' := [some (.ref 46)]) (st' := [(.int ((m_up (m_up I 46 0 0) 46 34 (((m_up I 46 0 0) 46 34) - 1)) 46 34)), (.ref 510)]) (I1 := m_up (m_up I 46 0 0) 46 34 (((m_up I 46 0 0) 46 34) - 1)) (T1 := T) rfl ?_
    obtain ⟨hg, hq⟩ := hq
    have hr1 := hg
    refine ev_aald rfl rfl hg (RF_510 hg.2) ?_
    refine ev_seq 2 (ip' := 21) (loc' := [some (.ref 46)]) (st' := [(.ref 508), (.ref (511 + ((m_up (m_up I 46 0 0) 46 34 (((m_up I 46 0 0) 46 34) - 1)) 46 34).toNatClampNeg))]) (I1 := m_up (m_up I 46 0 0) 46 34 (((m_up I 46 0 0) 46 34) - 1)) (T1 := T) rfl ?_
    refine ev_callV rfl rfl rfl (fun I2 T2 hq => ?_) (fun x I1 T1 hq => ?_) hq
    · refine ev_seq 5 (ip' := 27) (loc' := [some (.ref 46)]) (st' := [(.int ((m_up I2 46 35 0) 46 34))]) (I1 := m_up I2 46 35 0) (T1 := T2) rfl ?_
      exact ev_ret rfl rfl hq
    · exact hq.elim
/-- FeltHarnessModel.waits()I -/
def t_M_waits_43 (E : MEnv) (I : II) (T : TT) (Q : QQ) : Prop := Q (.inl (some (.int (-1)))) I T
theorem s_M_waits_43 {E : MEnv} {I : II} {T : TT} {Q : QQ} (hq : t_M_waits_43 E I T Q) : ev E 215 43 [none, none] [] I T Q := by
  unfold t_M_waits_43 at hq
  refine ev_seq 1 (ip' := 44) (loc' := [none, none]) (st' := [(.int (-1))]) (I1 := I) (T1 := T) rfl ?_
  exact ev_ret rfl rfl hq
def t_M_waits_10 (E : MEnv) (I : II) (T : TT) (Q : QQ) (x1 : Int32) : Prop := (99 < x1 → (t_M_waits_43 E I T Q )) ∧ (¬ (99 < x1) → (ev E 154 0 [some (.ref 46), some (.ref 508)] [] I T (KI (fun v1 I1 T1 => (v1 = 0 → (t_M_waits_43 E I1 T1 Q )) ∧ (¬ (v1 = 0) → (ev E 156 0 [some (.ref 46), some (.ref 509), some (.int 1), none, none, none, none] [] I1 T1 (KI (fun v2 I2 T2 => ev E 164 0 [some (.ref 46), some (.ref 509), none] [] I2 T2 (KI (fun v3 I3 T3 => ev E 165 0 [some (.ref 46), some (.int (I1 509 25)), some (.int v2), some (.int v3)] [] I3 T3 (KI (fun v4 I4 T4 => (v4 = 2 → (Q (.inl (some (.int x1))) I4 T4)) ∧ (¬ (v4 = 2) → (ev E 168 0 [some (.ref 46), some (.ref 509), none] [] I4 T4 (KV (fun I5 T5 => ev E 215 10 [some (.ref 46), some (.int (x1 + 1))] [] I5 T5 Q) (fun x I1 T1 => Q (.inr x) I1 T1))))) (fun x I1 T1 => Q (.inr x) I1 T1))) (fun x I1 T1 => Q (.inr x) I1 T1))) (fun x I1 T1 => Q (.inr x) I1 T1))))) (fun x I1 T1 => Q (.inr x) I1 T1))))
theorem s_M_waits_10 {E : MEnv} {I : II} {T : TT} {Q : QQ} {x1 : Int32} (hq : t_M_waits_10 E I T Q x1) : ev E 215 10 [some (.ref 46), some (.int x1)] [] I T Q := by
  unfold t_M_waits_10 at hq
  refine ev_seq 2 (ip' := 12) (loc' := [some (.ref 46), some (.int x1)]) (st' := [(.int 99), (.int x1)]) (I1 := I) (T1 := T) rfl ?_
  refine ev_br (p := 99 < x1) (a := 43) (b := 13) (st' := []) inferInstance rfl rfl (fun hb => ?_) (fun hb => ?_)
  · have hq := hq.1 hb
    refine ev_fg [false, false] (loc' := [none, none]) rfl ?_
    exact s_M_waits_43 (T := T) hq
  · have hq := hq.2 hb
    refine ev_seq 3 (ip' := 16) (loc' := [some (.ref 46), some (.int x1)]) (st' := [(.ref 508), (.ref 46)]) (I1 := I) (T1 := T) rfl ?_
    refine ev_callI rfl rfl rfl (fun v1 I1 T1 hq => ?_) (fun x I1 T1 hq => ?_) hq
    · refine ev_br (p := v1 = 0) (a := 43) (b := 18) (st' := []) inferInstance rfl rfl (fun hb => ?_) (fun hb => ?_)
      · have hq := hq.1 hb
        refine ev_fg [false, false] (loc' := [none, none]) rfl ?_
        exact s_M_waits_43 (T := T1) hq
      · have hq := hq.2 hb
        refine ev_seq 9 (ip' := 27) (loc' := [some (.ref 46), some (.int x1)]) (st' := [(.int 1), (.ref 509), (.ref 46), (.int (I1 509 25)), (.ref 46)]) (I1 := I1) (T1 := T1) rfl ?_
        refine ev_callI rfl rfl rfl (fun v2 I2 T2 hq => ?_) (fun x I1 T1 hq => ?_) hq
        · refine ev_seq 3 (ip' := 31) (loc' := [some (.ref 46), some (.int x1)]) (st' := [(.ref 509), (.ref 46), (.int v2), (.int (I1 509 25)), (.ref 46)]) (I1 := I2) (T1 := T2) rfl ?_
          refine ev_callI rfl rfl rfl (fun v3 I3 T3 hq => ?_) (fun x I1 T1 hq => ?_) hq
          · refine ev_callI rfl rfl rfl (fun v4 I4 T4 hq => ?_) (fun x I1 T1 hq => ?_) hq
            · refine ev_seq 1 (ip' := 34) (loc' := [some (.ref 46), some (.int x1)]) (st' := [(.int 2), (.int v4)]) (I1 := I4) (T1 := T4) rfl ?_
              refine ev_br (p := v4 = 2) (a := 35) (b := 37) (st' := []) inferInstance rfl rfl (fun hb => ?_) (fun hb => ?_)
              · have hq := hq.1 hb
                refine ev_seq 1 (ip' := 36) (loc' := [some (.ref 46), some (.int x1)]) (st' := [(.int x1)]) (I1 := I4) (T1 := T4) rfl ?_
                exact ev_ret rfl rfl hq
              · have hq := hq.2 hb
                refine ev_seq 3 (ip' := 40) (loc' := [some (.ref 46), some (.int x1)]) (st' := [(.ref 509), (.ref 46)]) (I1 := I4) (T1 := T4) rfl ?_
                refine ev_callV rfl rfl rfl (fun I5 T5 hq => ?_) (fun x I1 T1 hq => ?_) hq
                · refine ev_seq 2 (ip' := 10) (loc' := [some (.ref 46), some (.int (x1 + 1))]) (st' := []) (I1 := I5) (T1 := T5) rfl ?_
                  exact hq
                · exact ⟨by decide, hq⟩
            · exact ⟨by decide, hq⟩
          · exact ⟨by decide, hq⟩
        · exact ⟨by decide, hq⟩
    · exact ⟨by decide, hq⟩
def t_M_waits_0 (E : MEnv) (I : II) (T : TT) (Q : QQ) : Prop := ev E 147 0 [some (.ref 508), some (.ref 509), none] [] (m_up I 46 0 0) T (KV (fun I1 T1 => t_M_waits_10 E I1 T1 Q 0) (fun _ _ _ => False))
theorem s_M_waits_0 {E : MEnv} {I : II} {T : TT} {Q : QQ} (hq : t_M_waits_0 E I T Q) : ev E 215 0 [some (.ref 46), none] [] I T Q := by
  unfold t_M_waits_0 at hq
  refine ev_seq 7 (ip' := 7) (loc' := [some (.ref 46), none]) (st' := [(.ref 509), (.ref 508)]) (I1 := m_up I 46 0 0) (T1 := T) rfl ?_
  refine ev_callV rfl rfl rfl (fun I1 T1 hq => ?_) (fun x I1 T1 hq => ?_) hq
  · refine ev_seq 2 (ip' := 10) (loc' := [some (.ref 46), some (.int 0)]) (st' := []) (I1 := I1) (T1 := T1) rfl ?_
    exact s_M_waits_10 (T := T1) hq
  · exact hq.elim
/-- FeltHarnessModel.weariest(I)I -/
def t_M_weariest_63 (E : MEnv) (I : II) (T : TT) (Q : QQ) (y0 : Int32) : Prop := Q (.inl (some (.int y0))) I T
theorem s_M_weariest_63 {E : MEnv} {I : II} {T : TT} {Q : QQ} {y0 : Int32} (hq : t_M_weariest_63 E I T Q y0) : ev E 282 63 [none, none, none, none] [(.int y0)] I T Q := by
  unfold t_M_weariest_63 at hq
  exact ev_ret rfl rfl hq
def t_M_weariest_55 (E : MEnv) (I : II) (T : TT) (Q : QQ) (x2 : Int32) : Prop := t_M_weariest_63 E I T Q x2
theorem s_M_weariest_55 {E : MEnv} {I : II} {T : TT} {Q : QQ} {x2 : Int32} (hq : t_M_weariest_55 E I T Q x2) : ev E 282 55 [none, none, some (.int x2), none] [] I T Q := by
  unfold t_M_weariest_55 at hq
  refine ev_seq 2 (ip' := 63) (loc' := [none, none, some (.int x2), none]) (st' := [(.int x2)]) (I1 := I) (T1 := T) rfl ?_
  refine ev_fg [true, true, false, true] (loc' := [none, none, none, none]) rfl ?_
  exact s_M_weariest_63 (T := T) hq
def t_M_weariest_47 (E : MEnv) (I : II) (T : TT) (Q : QQ) (x1 : Int32) (x3 : Int32) (y0 : Int32) : Prop := ev E 282 22 [some (.ref 46), some (.int x1), some (.int y0), some (.int (x3 + 1))] [] I T Q
theorem s_M_weariest_47 {E : MEnv} {I : II} {T : TT} {Q : QQ} {x1 : Int32} {x3 : Int32} {y0 : Int32} (hq : t_M_weariest_47 E I T Q x1 x3 y0) : ev E 282 47 [some (.ref 46), some (.int x1), none, some (.int x3)] [(.int y0)] I T Q := by
  unfold t_M_weariest_47 at hq
  refine ev_seq 3 (ip' := 22) (loc' := [some (.ref 46), some (.int x1), some (.int y0), some (.int (x3 + 1))]) (st' := []) (I1 := I) (T1 := T) rfl ?_
  exact hq
def t_M_weariest_44 (E : MEnv) (I : II) (T : TT) (Q : QQ) (x1 : Int32) (x3 : Int32) : Prop := t_M_weariest_47 E I T Q x1 x3 x3
theorem s_M_weariest_44 {E : MEnv} {I : II} {T : TT} {Q : QQ} {x1 : Int32} {x3 : Int32} (hq : t_M_weariest_44 E I T Q x1 x3) : ev E 282 44 [some (.ref 46), some (.int x1), none, some (.int x3)] [] I T Q := by
  unfold t_M_weariest_44 at hq
  refine ev_seq 2 (ip' := 47) (loc' := [some (.ref 46), some (.int x1), none, some (.int x3)]) (st' := [(.int x3)]) (I1 := I) (T1 := T) rfl ?_
  exact s_M_weariest_47 (T := T) hq
def t_M_weariest_22 (E : MEnv) (I : II) (T : TT) (Q : QQ) (x1 : Int32) (x2 : Int32) (x3 : Int32) : Prop := ((I 50 0) ≤ x3 → ((x1 = 0 → (t_M_weariest_55 E I T Q x2)) ∧ (¬ (x1 = 0) → ((x2 = (-1) → (t_M_weariest_55 E I T Q x2)) ∧ (¬ (x2 = (-1)) → ((¬ (16 + x2) < 0 ∧ (16 + x2).toNatClampNeg < 29) ∧ (t_M_weariest_63 E I T Q (I 508 (16 + x2).toNatClampNeg)))))))) ∧ (¬ ((I 50 0) ≤ x3) → ((x2 = (-1) → (t_M_weariest_44 E I T Q x1 x3)) ∧ (¬ (x2 = (-1)) → ((¬ (16 + x3) < 0 ∧ (16 + x3).toNatClampNeg < 29) ∧ ((¬ (16 + x2) < 0 ∧ (16 + x2).toNatClampNeg < 29) ∧ (((I 508 (16 + x3).toNatClampNeg) ≤ (I 508 (16 + x2).toNatClampNeg) → (t_M_weariest_47 E I T Q x1 x3 x2)) ∧ (¬ ((I 508 (16 + x3).toNatClampNeg) ≤ (I 508 (16 + x2).toNatClampNeg)) → (t_M_weariest_44 E I T Q x1 x3))))))))
theorem s_M_weariest_22 {E : MEnv} {I : II} {T : TT} {Q : QQ} {x1 : Int32} {x2 : Int32} {x3 : Int32} (hq : t_M_weariest_22 E I T Q x1 x2 x3) : ev E 282 22 [some (.ref 46), some (.int x1), some (.int x2), some (.int x3)] [] I T Q := by
  unfold t_M_weariest_22 at hq
  refine ev_seq 5 (ip' := 27) (loc' := [some (.ref 46), some (.int x1), some (.int x2), some (.int x3)]) (st' := [(.int (I 50 0)), (.int x3)]) (I1 := I) (T1 := T) rfl ?_
  refine ev_br (p := (I 50 0) ≤ x3) (a := 50) (b := 28) (st' := []) inferInstance rfl rfl (fun hb => ?_) (fun hb => ?_)
  · have hq := hq.1 hb
    refine ev_seq 1 (ip' := 51) (loc' := [some (.ref 46), some (.int x1), some (.int x2), some (.int x3)]) (st' := [(.int x1)]) (I1 := I) (T1 := T) rfl ?_
    refine ev_br (p := x1 = 0) (a := 55) (b := 52) (st' := []) inferInstance rfl rfl (fun hb => ?_) (fun hb => ?_)
    · have hq := hq.1 hb
      refine ev_fg [false, false, true, false] (loc' := [none, none, some (.int x2), none]) rfl ?_
      exact s_M_weariest_55 (T := T) hq
    · have hq := hq.2 hb
      refine ev_seq 2 (ip' := 54) (loc' := [some (.ref 46), some (.int x1), some (.int x2), some (.int x3)]) (st' := [(.int (-1)), (.int x2)]) (I1 := I) (T1 := T) rfl ?_
      refine ev_br (p := x2 = (-1)) (a := 55) (b := 57) (st' := []) inferInstance rfl rfl (fun hb => ?_) (fun hb => ?_)
      · have hq := hq.1 hb
        refine ev_fg [false, false, true, false] (loc' := [none, none, some (.int x2), none]) rfl ?_
        exact s_M_weariest_55 (T := T) hq
      · have hq := hq.2 hb
        refine ev_seq 5 (ip' := 62) (loc' := [some (.ref 46), some (.int x1), some (.int x2), some (.int x3)]) (st' := [(.int (16 + x2)), (.ref 508)]) (I1 := I) (T1 := T) rfl ?_
        obtain ⟨hg, hq⟩ := hq
        refine ev_iald rfl rfl hg ?_
        refine ev_fg [false, false, false, false] (loc' := [none, none, none, none]) rfl ?_
        exact s_M_weariest_63 (T := T) hq
  · have hq := hq.2 hb
    refine ev_seq 2 (ip' := 30) (loc' := [some (.ref 46), some (.int x1), some (.int x2), some (.int x3)]) (st' := [(.int (-1)), (.int x2)]) (I1 := I) (T1 := T) rfl ?_
    refine ev_br (p := x2 = (-1)) (a := 44) (b := 31) (st' := []) inferInstance rfl rfl (fun hb => ?_) (fun hb => ?_)
    · have hq := hq.1 hb
      refine ev_fg [true, true, false, true] (loc' := [some (.ref 46), some (.int x1), none, some (.int x3)]) rfl ?_
      exact s_M_weariest_44 (T := T) hq
    · have hq := hq.2 hb
      refine ev_seq 5 (ip' := 36) (loc' := [some (.ref 46), some (.int x1), some (.int x2), some (.int x3)]) (st' := [(.int (16 + x3)), (.ref 508)]) (I1 := I) (T1 := T) rfl ?_
      obtain ⟨hg, hq⟩ := hq
      refine ev_iald rfl rfl hg ?_
      refine ev_seq 5 (ip' := 42) (loc' := [some (.ref 46), some (.int x1), some (.int x2), some (.int x3)]) (st' := [(.int (16 + x2)), (.ref 508), (.int (I 508 (16 + x3).toNatClampNeg))]) (I1 := I) (T1 := T) rfl ?_
      obtain ⟨hg, hq⟩ := hq
      refine ev_iald rfl rfl hg ?_
      refine ev_br (p := (I 508 (16 + x3).toNatClampNeg) ≤ (I 508 (16 + x2).toNatClampNeg)) (a := 46) (b := 44) (st' := []) inferInstance rfl rfl (fun hb => ?_) (fun hb => ?_)
      · have hq := hq.1 hb
        refine ev_seq 1 (ip' := 47) (loc' := [some (.ref 46), some (.int x1), some (.int x2), some (.int x3)]) (st' := [(.int x2)]) (I1 := I) (T1 := T) rfl ?_
        refine ev_fg [true, true, false, true] (loc' := [some (.ref 46), some (.int x1), none, some (.int x3)]) rfl ?_
        exact s_M_weariest_47 (T := T) hq
      · have hq := hq.2 hb
        refine ev_fg [true, true, false, true] (loc' := [some (.ref 46), some (.int x1), none, some (.int x3)]) rfl ?_
        exact s_M_weariest_44 (T := T) hq
def t_M_weariest_12 (E : MEnv) (I : II) (T : TT) (Q : QQ) (x1 : Int32) (y1 : Int32) : Prop := ev E 58 0 [some (.ref 46), some (.int y1), some (.int 1), some (.int 1)] [] I T (KI (fun v1 I1 T1 => (v1 = 0 → (t_M_weariest_22 E I1 T1 Q x1 (-1) 0)) ∧ (¬ (v1 = 0) → (Q (.inl (some (.int 0))) I1 T1))) (fun x I1 T1 => Q (.inr x) I1 T1))
theorem s_M_weariest_12 {E : MEnv} {I : II} {T : TT} {Q : QQ} {x1 : Int32} {y1 : Int32} (hq : t_M_weariest_12 E I T Q x1 y1) : ev E 282 12 [some (.ref 46), some (.int x1), none, none] [(.int y1), (.ref 46)] I T Q := by
  unfold t_M_weariest_12 at hq
  refine ev_seq 2 (ip' := 14) (loc' := [some (.ref 46), some (.int x1), none, none]) (st' := [(.int 1), (.int 1), (.int y1), (.ref 46)]) (I1 := I) (T1 := T) rfl ?_
  refine ev_callI rfl rfl rfl (fun v1 I1 T1 hq => ?_) (fun x I1 T1 hq => ?_) hq
  · refine ev_br (p := v1 = 0) (a := 18) (b := 16) (st' := []) inferInstance rfl rfl (fun hb => ?_) (fun hb => ?_)
    · have hq := hq.1 hb
      refine ev_seq 4 (ip' := 22) (loc' := [some (.ref 46), some (.int x1), some (.int (-1)), some (.int 0)]) (st' := []) (I1 := I1) (T1 := T1) rfl ?_
      exact s_M_weariest_22 (T := T1) hq
    · have hq := hq.2 hb
      refine ev_seq 1 (ip' := 17) (loc' := [some (.ref 46), some (.int x1), none, none]) (st' := [(.int 0)]) (I1 := I1) (T1 := T1) rfl ?_
      exact ev_ret rfl rfl hq
  · exact ⟨by decide, hq⟩
def t_M_weariest_0 (E : MEnv) (I : II) (T : TT) (Q : QQ) (x1 : Int32) : Prop := ev E 57 0 [some (.int x1), some (.int 0), some (.int 1)] [] (m_up I 46 0 0) T (KI (fun v1 I1 T1 => (v1 = 0 → (t_M_weariest_12 E I1 T1 Q x1 1)) ∧ (¬ (v1 = 0) → (t_M_weariest_12 E I1 T1 Q x1 0))) (fun _ _ _ => False))
theorem s_M_weariest_0 {E : MEnv} {I : II} {T : TT} {Q : QQ} {x1 : Int32} (hq : t_M_weariest_0 E I T Q x1) : ev E 282 0 [some (.ref 46), some (.int x1), none, none] [] I T Q := by
  unfold t_M_weariest_0 at hq
  refine ev_seq 7 (ip' := 7) (loc' := [some (.ref 46), some (.int x1), none, none]) (st' := [(.int 1), (.int 0), (.int x1), (.ref 46)]) (I1 := m_up I 46 0 0) (T1 := T) rfl ?_
  refine ev_callI rfl rfl rfl (fun v1 I1 T1 hq => ?_) (fun x I1 T1 hq => ?_) hq
  · refine ev_br (p := v1 = 0) (a := 9) (b := 11) (st' := [(.ref 46)]) inferInstance rfl rfl (fun hb => ?_) (fun hb => ?_)
    · have hq := hq.1 hb
      refine ev_seq 2 (ip' := 12) (loc' := [some (.ref 46), some (.int x1), none, none]) (st' := [(.int 1), (.ref 46)]) (I1 := I1) (T1 := T1) rfl ?_
      exact s_M_weariest_12 (T := T1) hq
    · have hq := hq.2 hb
      refine ev_seq 1 (ip' := 12) (loc' := [some (.ref 46), some (.int x1), none, none]) (st' := [(.int 0), (.ref 46)]) (I1 := I1) (T1 := T1) rfl ?_
      exact s_M_weariest_12 (T := T1) hq
  · exact hq.elim
/-- FeltHarnessModel.weighs(I)V -/
def t_M_weighs_91 (E : MEnv) (I : II) (T : TT) (Q : QQ) : Prop := Q (.inl none) I T
theorem s_M_weighs_91 {E : MEnv} {I : II} {T : TT} {Q : QQ} (hq : t_M_weighs_91 E I T Q) : ev E 227 91 [none, none, none, none, none, none, none] [] I T Q := by
  unfold t_M_weighs_91 at hq
  exact ev_ret rfl rfl hq
def t_M_weighs_100 (E : MEnv) (I : II) (T : TT) (Q : QQ) (x5 : Int32) : Prop := (4 ≤ x5 → (Q (.inl none) I T)) ∧ (¬ (4 ≤ x5) → ((¬ x5 < 0 ∧ x5.toNatClampNeg < 4) ∧ ((¬ x5 < 0 ∧ x5.toNatClampNeg < 4) ∧ (ev E 227 100 [some (.ref 46), none, none, none, none, some (.int (x5 + 1)), none] [] (m_up I 532 x5.toNatClampNeg (I 531 x5.toNatClampNeg)) T Q))))
theorem s_M_weighs_100 {E : MEnv} {I : II} {T : TT} {Q : QQ} {x5 : Int32} (hq : t_M_weighs_100 E I T Q x5) : ev E 227 100 [some (.ref 46), none, none, none, none, some (.int x5), none] [] I T Q := by
  unfold t_M_weighs_100 at hq
  refine ev_seq 2 (ip' := 102) (loc' := [some (.ref 46), none, none, none, none, some (.int x5), none]) (st' := [(.int 4), (.int x5)]) (I1 := I) (T1 := T) rfl ?_
  refine ev_br (p := 4 ≤ x5) (a := 113) (b := 103) (st' := []) inferInstance rfl rfl (fun hb => ?_) (fun hb => ?_)
  · have hq := hq.1 hb
    exact ev_ret rfl rfl hq
  · have hq := hq.2 hb
    refine ev_seq 6 (ip' := 109) (loc' := [some (.ref 46), none, none, none, none, some (.int x5), none]) (st' := [(.int x5), (.ref 531), (.int x5), (.ref 532)]) (I1 := I) (T1 := T) rfl ?_
    obtain ⟨hg, hq⟩ := hq
    refine ev_iald rfl rfl hg ?_
    obtain ⟨hg, hq⟩ := hq
    refine ev_iast rfl rfl hg ?_
    refine ev_seq 2 (ip' := 100) (loc' := [some (.ref 46), none, none, none, none, some (.int (x5 + 1)), none]) (st' := []) (I1 := m_up I 532 x5.toNatClampNeg (I 531 x5.toNatClampNeg)) (T1 := T) rfl ?_
    exact hq
def t_M_weighs_92 (E : MEnv) (I : II) (T : TT) (Q : QQ) (x3 : Int32) (x4 : Int32) : Prop := t_M_weighs_100 E (m_up (m_up I 46 42 x3) 46 43 x4) T Q 0
theorem s_M_weighs_92 {E : MEnv} {I : II} {T : TT} {Q : QQ} {x3 : Int32} {x4 : Int32} (hq : t_M_weighs_92 E I T Q x3 x4) : ev E 227 92 [some (.ref 46), none, none, some (.int x3), some (.int x4), none, none] [] I T Q := by
  unfold t_M_weighs_92 at hq
  refine ev_seq 8 (ip' := 100) (loc' := [some (.ref 46), none, none, some (.int x3), some (.int x4), some (.int 0), none]) (st' := []) (I1 := m_up (m_up I 46 42 x3) 46 43 x4) (T1 := T) rfl ?_
  refine ev_fg [true, true, true, false, false, true, true] (loc' := [some (.ref 46), none, none, none, none, some (.int 0), none]) rfl ?_
  exact s_M_weighs_100 (T := T) hq
def t_M_weighs_71 (E : MEnv) (I : II) (T : TT) (Q : QQ) (x1 : Int32) (x3 : Int32) (y0 : Int32) : Prop := ev E 165 0 [some (.ref 46), some (.int x1), some (.int x3), some (.int y0)] [] I T (KI (fun v1 I1 T1 => (v1 = 2 → ((x3 < (I1 46 42) → (t_M_weighs_91 E I1 T1 Q )) ∧ (¬ (x3 < (I1 46 42)) → ((x3 = (I1 46 42) → ((y0 < (I1 46 43) → (t_M_weighs_92 E I1 T1 Q x3 y0)) ∧ (¬ (y0 < (I1 46 43)) → (t_M_weighs_91 E I1 T1 Q )))) ∧ (¬ (x3 = (I1 46 42)) → (t_M_weighs_92 E I1 T1 Q x3 y0)))))) ∧ (¬ (v1 = 2) → (t_M_weighs_91 E I1 T1 Q ))) (fun x I1 T1 => Q (.inr x) I1 T1))
theorem s_M_weighs_71 {E : MEnv} {I : II} {T : TT} {Q : QQ} {x1 : Int32} {x3 : Int32} {y0 : Int32} (hq : t_M_weighs_71 E I T Q x1 x3 y0) : ev E 227 71 [some (.ref 46), some (.int x1), none, some (.int x3), none, none, none] [(.int y0)] I T Q := by
  unfold t_M_weighs_71 at hq
  refine ev_seq 5 (ip' := 76) (loc' := [some (.ref 46), some (.int x1), none, some (.int x3), some (.int y0), none, none]) (st' := [(.int y0), (.int x3), (.int x1), (.ref 46)]) (I1 := I) (T1 := T) rfl ?_
  refine ev_callI rfl rfl rfl (fun v1 I1 T1 hq => ?_) (fun x I1 T1 hq => ?_) hq
  · refine ev_seq 1 (ip' := 78) (loc' := [some (.ref 46), some (.int x1), none, some (.int x3), some (.int y0), none, none]) (st' := [(.int 2), (.int v1)]) (I1 := I1) (T1 := T1) rfl ?_
    refine ev_br (p := v1 = 2) (a := 79) (b := 91) (st' := []) inferInstance rfl rfl (fun hb => ?_) (fun hb => ?_)
    · have hq := hq.1 hb
      refine ev_seq 3 (ip' := 82) (loc' := [some (.ref 46), some (.int x1), none, some (.int x3), some (.int y0), none, none]) (st' := [(.int (I1 46 42)), (.int x3)]) (I1 := I1) (T1 := T1) rfl ?_
      refine ev_br (p := x3 < (I1 46 42)) (a := 91) (b := 83) (st' := []) inferInstance rfl rfl (fun hb => ?_) (fun hb => ?_)
      · have hq := hq.1 hb
        refine ev_fg [false, false, true, false, false, true, true] (loc' := [none, none, none, none, none, none, none]) rfl ?_
        exact s_M_weighs_91 (T := T1) hq
      · have hq := hq.2 hb
        refine ev_seq 3 (ip' := 86) (loc' := [some (.ref 46), some (.int x1), none, some (.int x3), some (.int y0), none, none]) (st' := [(.int (I1 46 42)), (.int x3)]) (I1 := I1) (T1 := T1) rfl ?_
        refine ev_br (p := x3 = (I1 46 42)) (a := 87) (b := 92) (st' := []) inferInstance rfl rfl (fun hb => ?_) (fun hb => ?_)
        · have hq := hq.1 hb
          refine ev_seq 3 (ip' := 90) (loc' := [some (.ref 46), some (.int x1), none, some (.int x3), some (.int y0), none, none]) (st' := [(.int (I1 46 43)), (.int y0)]) (I1 := I1) (T1 := T1) rfl ?_
          refine ev_br (p := y0 < (I1 46 43)) (a := 92) (b := 91) (st' := []) inferInstance rfl rfl (fun hb => ?_) (fun hb => ?_)
          · have hq := hq.1 hb
            refine ev_fg [true, false, true, true, true, true, true] (loc' := [some (.ref 46), none, none, some (.int x3), some (.int y0), none, none]) rfl ?_
            exact s_M_weighs_92 (T := T1) hq
          · have hq := hq.2 hb
            refine ev_fg [false, false, true, false, false, true, true] (loc' := [none, none, none, none, none, none, none]) rfl ?_
            exact s_M_weighs_91 (T := T1) hq
        · have hq := hq.2 hb
          refine ev_fg [true, false, true, true, true, true, true] (loc' := [some (.ref 46), none, none, some (.int x3), some (.int y0), none, none]) rfl ?_
          exact s_M_weighs_92 (T := T1) hq
    · have hq := hq.2 hb
      refine ev_fg [false, false, true, false, false, true, true] (loc' := [none, none, none, none, none, none, none]) rfl ?_
      exact s_M_weighs_91 (T := T1) hq
  · exact ⟨by decide, hq⟩
def t_M_weighs_63 (E : MEnv) (I : II) (T : TT) (Q : QQ) (x1 : Int32) (x2 : Int32) (x3 : Int32) (x4 : Int32) (x5 : Int32) : Prop := ev E 227 27 [some (.ref 46), some (.int x1), some (.int x2), some (.int x3), some (.int x4), some (.int (x5 + 1)), none] [] I T Q
theorem s_M_weighs_63 {E : MEnv} {I : II} {T : TT} {Q : QQ} {x1 : Int32} {x2 : Int32} {x3 : Int32} {x4 : Int32} {x5 : Int32} (hq : t_M_weighs_63 E I T Q x1 x2 x3 x4 x5) : ev E 227 63 [some (.ref 46), some (.int x1), some (.int x2), some (.int x3), some (.int x4), some (.int x5), none] [] I T Q := by
  unfold t_M_weighs_63 at hq
  refine ev_seq 2 (ip' := 27) (loc' := [some (.ref 46), some (.int x1), some (.int x2), some (.int x3), some (.int x4), some (.int (x5 + 1)), none]) (st' := []) (I1 := I) (T1 := T) rfl ?_
  exact hq
def t_M_weighs_61 (E : MEnv) (I : II) (T : TT) (Q : QQ) (x1 : Int32) (x2 : Int32) (x3 : Int32) (x5 : Int32) (y0 : Int32) (y1 : Int32) : Prop := t_M_weighs_63 E I T Q x1 x2 x3 (y0 + y1) x5
theorem s_M_weighs_61 {E : MEnv} {I : II} {T : TT} {Q : QQ} {x1 : Int32} {x2 : Int32} {x3 : Int32} {x5 : Int32} {y0 : Int32} {y1 : Int32} (hq : t_M_weighs_61 E I T Q x1 x2 x3 x5 y0 y1) : ev E 227 61 [some (.ref 46), some (.int x1), some (.int x2), some (.int x3), none, some (.int x5), none] [(.int y1), (.int y0)] I T Q := by
  unfold t_M_weighs_61 at hq
  refine ev_seq 2 (ip' := 63) (loc' := [some (.ref 46), some (.int x1), some (.int x2), some (.int x3), some (.int (y0 + y1)), some (.int x5), none]) (st' := []) (I1 := I) (T1 := T) rfl ?_
  exact s_M_weighs_63 (T := T) hq
def t_M_weighs_27 (E : MEnv) (I : II) (T : TT) (Q : QQ) (x1 : Int32) (x2 : Int32) (x3 : Int32) (x4 : Int32) (x5 : Int32) : Prop := (4 ≤ x5 → ((0 ≤ x4 → (t_M_weighs_71 E I T Q x1 x3 x4)) ∧ (¬ (0 ≤ x4) → (t_M_weighs_71 E I T Q x1 x3 (0 - x4))))) ∧ (¬ (4 ≤ x5) → ((¬ x5 < 0 ∧ x5.toNatClampNeg < 4) ∧ (((I 531 x5.toNatClampNeg) = (-1) → (t_M_weighs_63 E I T Q x1 x2 x3 x4 x5)) ∧ (¬ ((I 531 x5.toNatClampNeg) = (-1)) → ((¬ x5 < 0 ∧ x5.toNatClampNeg < 4) ∧ (ev E 158 0 [some (.ref 46), some (.ref 508), some (.int (I 531 x5.toNatClampNeg)), some (.int x5), some (.int x2)] [] I T (KI (fun v1 I1 T1 => ((x5 - x5 / 2 * 2) = 0 → (t_M_weighs_61 E I1 T1 Q x1 x2 (x3 + v1) x5 x4 v1)) ∧ (¬ ((x5 - x5 / 2 * 2) = 0) → (t_M_weighs_61 E I1 T1 Q x1 x2 (x3 + v1) x5 x4 (0 - v1)))) (fun x I1 T1 => Q (.inr x) I1 T1))))))))
theorem s_M_weighs_27 {E : MEnv} {I : II} {T : TT} {Q : QQ} {x1 : Int32} {x2 : Int32} {x3 : Int32} {x4 : Int32} {x5 : Int32} (hq : t_M_weighs_27 E I T Q x1 x2 x3 x4 x5) : ev E 227 27 [some (.ref 46), some (.int x1), some (.int x2), some (.int x3), some (.int x4), some (.int x5), none] [] I T Q := by
  unfold t_M_weighs_27 at hq
  refine ev_seq 2 (ip' := 29) (loc' := [some (.ref 46), some (.int x1), some (.int x2), some (.int x3), some (.int x4), some (.int x5), none]) (st' := [(.int 4), (.int x5)]) (I1 := I) (T1 := T) rfl ?_
  refine ev_br (p := 4 ≤ x5) (a := 65) (b := 30) (st' := []) inferInstance rfl rfl (fun hb => ?_) (fun hb => ?_)
  · have hq := hq.1 hb
    refine ev_seq 1 (ip' := 66) (loc' := [some (.ref 46), some (.int x1), some (.int x2), some (.int x3), some (.int x4), some (.int x5), none]) (st' := [(.int x4)]) (I1 := I) (T1 := T) rfl ?_
    refine ev_br (p := 0 ≤ x4) (a := 70) (b := 67) (st' := []) inferInstance rfl rfl (fun hb => ?_) (fun hb => ?_)
    · have hq := hq.1 hb
      refine ev_seq 1 (ip' := 71) (loc' := [some (.ref 46), some (.int x1), some (.int x2), some (.int x3), some (.int x4), some (.int x5), none]) (st' := [(.int x4)]) (I1 := I) (T1 := T) rfl ?_
      refine ev_fg [true, true, false, true, false, false, true] (loc' := [some (.ref 46), some (.int x1), none, some (.int x3), none, none, none]) rfl ?_
      exact s_M_weighs_71 (T := T) hq
    · have hq := hq.2 hb
      refine ev_seq 3 (ip' := 71) (loc' := [some (.ref 46), some (.int x1), some (.int x2), some (.int x3), some (.int x4), some (.int x5), none]) (st' := [(.int (0 - x4))]) (I1 := I) (T1 := T) rfl ?_
      refine ev_fg [true, true, false, true, false, false, true] (loc' := [some (.ref 46), some (.int x1), none, some (.int x3), none, none, none]) rfl ?_
      exact s_M_weighs_71 (T := T) hq
  · have hq := hq.2 hb
    refine ev_seq 3 (ip' := 33) (loc' := [some (.ref 46), some (.int x1), some (.int x2), some (.int x3), some (.int x4), some (.int x5), none]) (st' := [(.int x5), (.ref 531)]) (I1 := I) (T1 := T) rfl ?_
    obtain ⟨hg, hq⟩ := hq
    refine ev_iald rfl rfl hg ?_
    refine ev_seq 1 (ip' := 35) (loc' := [some (.ref 46), some (.int x1), some (.int x2), some (.int x3), some (.int x4), some (.int x5), none]) (st' := [(.int (-1)), (.int (I 531 x5.toNatClampNeg))]) (I1 := I) (T1 := T) rfl ?_
    refine ev_br (p := (I 531 x5.toNatClampNeg) = (-1)) (a := 36) (b := 37) (st' := []) inferInstance rfl rfl (fun hb => ?_) (fun hb => ?_)
    · have hq := hq.1 hb
      refine ev_seq 1 (ip' := 63) (loc' := [some (.ref 46), some (.int x1), some (.int x2), some (.int x3), some (.int x4), some (.int x5), none]) (st' := []) (I1 := I) (T1 := T) rfl ?_
      exact s_M_weighs_63 (T := T) hq
    · have hq := hq.2 hb
      refine ev_seq 6 (ip' := 43) (loc' := [some (.ref 46), some (.int x1), some (.int x2), some (.int x3), some (.int x4), some (.int x5), none]) (st' := [(.int x5), (.ref 531), (.ref 508), (.ref 46)]) (I1 := I) (T1 := T) rfl ?_
      obtain ⟨hg, hq⟩ := hq
      refine ev_iald rfl rfl hg ?_
      refine ev_seq 2 (ip' := 46) (loc' := [some (.ref 46), some (.int x1), some (.int x2), some (.int x3), some (.int x4), some (.int x5), none]) (st' := [(.int x2), (.int x5), (.int (I 531 x5.toNatClampNeg)), (.ref 508), (.ref 46)]) (I1 := I) (T1 := T) rfl ?_
      refine ev_callI rfl rfl rfl (fun v1 I1 T1 hq => ?_) (fun x I1 T1 hq => ?_) hq
      · refine ev_seq 9 (ip' := 56) (loc' := [some (.ref 46), some (.int x1), some (.int x2), some (.int (x3 + v1)), some (.int x4), some (.int x5), some (.int v1)]) (st' := [(.int (x5 - x5 / 2 * 2)), (.int x4)]) (I1 := I1) (T1 := T1) rfl ?_
        refine ev_br (p := (x5 - x5 / 2 * 2) = 0) (a := 57) (b := 59) (st' := [(.int x4)]) inferInstance rfl rfl (fun hb => ?_) (fun hb => ?_)
        · have hq := hq.1 hb
          refine ev_seq 2 (ip' := 61) (loc' := [some (.ref 46), some (.int x1), some (.int x2), some (.int (x3 + v1)), some (.int x4), some (.int x5), some (.int v1)]) (st' := [(.int v1), (.int x4)]) (I1 := I1) (T1 := T1) rfl ?_
          refine ev_fg [true, true, true, true, false, true, false] (loc' := [some (.ref 46), some (.int x1), some (.int x2), some (.int (x3 + v1)), none, some (.int x5), none]) rfl ?_
          exact s_M_weighs_61 (T := T1) hq
        · have hq := hq.2 hb
          refine ev_seq 2 (ip' := 61) (loc' := [some (.ref 46), some (.int x1), some (.int x2), some (.int (x3 + v1)), some (.int x4), some (.int x5), some (.int v1)]) (st' := [(.int (0 - v1)), (.int x4)]) (I1 := I1) (T1 := T1) rfl ?_
          refine ev_fg [true, true, true, true, false, true, false] (loc' := [some (.ref 46), some (.int x1), some (.int x2), some (.int (x3 + v1)), none, some (.int x5), none]) rfl ?_
          exact s_M_weighs_61 (T := T1) hq
      · exact ⟨by decide, hq⟩
def t_M_weighs_21 (E : MEnv) (I : II) (T : TT) (Q : QQ) (x1 : Int32) (x3 : Int32) (x4 : Int32) (x5 : Int32) (y0 : Int32) (y1 : Int32) : Prop := ev E 227 8 [some (.ref 46), some (.int x1), some (.int (y0 + y1)), some (.int x3), some (.int x4), some (.int (x5 + 1)), none] [] I T Q
theorem s_M_weighs_21 {E : MEnv} {I : II} {T : TT} {Q : QQ} {x1 : Int32} {x3 : Int32} {x4 : Int32} {x5 : Int32} {y0 : Int32} {y1 : Int32} (hq : t_M_weighs_21 E I T Q x1 x3 x4 x5 y0 y1) : ev E 227 21 [some (.ref 46), some (.int x1), none, some (.int x3), some (.int x4), some (.int x5), none] [(.int y1), (.int y0)] I T Q := by
  unfold t_M_weighs_21 at hq
  refine ev_seq 4 (ip' := 8) (loc' := [some (.ref 46), some (.int x1), some (.int (y0 + y1)), some (.int x3), some (.int x4), some (.int (x5 + 1)), none]) (st' := []) (I1 := I) (T1 := T) rfl ?_
  exact hq
def t_M_weighs_8 (E : MEnv) (I : II) (T : TT) (Q : QQ) (x1 : Int32) (x2 : Int32) (x3 : Int32) (x4 : Int32) (x5 : Int32) : Prop := (4 ≤ x5 → (t_M_weighs_27 E I T Q x1 x2 x3 x4 0)) ∧ (¬ (4 ≤ x5) → ((¬ x5 < 0 ∧ x5.toNatClampNeg < 4) ∧ (((I 531 x5.toNatClampNeg) = (-1) → (t_M_weighs_21 E I T Q x1 x3 x4 x5 x2 0)) ∧ (¬ ((I 531 x5.toNatClampNeg) = (-1)) → (t_M_weighs_21 E I T Q x1 x3 x4 x5 x2 1)))))
theorem s_M_weighs_8 {E : MEnv} {I : II} {T : TT} {Q : QQ} {x1 : Int32} {x2 : Int32} {x3 : Int32} {x4 : Int32} {x5 : Int32} (hq : t_M_weighs_8 E I T Q x1 x2 x3 x4 x5) : ev E 227 8 [some (.ref 46), some (.int x1), some (.int x2), some (.int x3), some (.int x4), some (.int x5), none] [] I T Q := by
  unfold t_M_weighs_8 at hq
  refine ev_seq 2 (ip' := 10) (loc' := [some (.ref 46), some (.int x1), some (.int x2), some (.int x3), some (.int x4), some (.int x5), none]) (st' := [(.int 4), (.int x5)]) (I1 := I) (T1 := T) rfl ?_
  refine ev_br (p := 4 ≤ x5) (a := 25) (b := 11) (st' := []) inferInstance rfl rfl (fun hb => ?_) (fun hb => ?_)
  · have hq := hq.1 hb
    refine ev_seq 2 (ip' := 27) (loc' := [some (.ref 46), some (.int x1), some (.int x2), some (.int x3), some (.int x4), some (.int 0), none]) (st' := []) (I1 := I) (T1 := T) rfl ?_
    exact s_M_weighs_27 (T := T) hq
  · have hq := hq.2 hb
    refine ev_seq 4 (ip' := 15) (loc' := [some (.ref 46), some (.int x1), some (.int x2), some (.int x3), some (.int x4), some (.int x5), none]) (st' := [(.int x5), (.ref 531), (.int x2)]) (I1 := I) (T1 := T) rfl ?_
    obtain ⟨hg, hq⟩ := hq
    refine ev_iald rfl rfl hg ?_
    refine ev_seq 1 (ip' := 17) (loc' := [some (.ref 46), some (.int x1), some (.int x2), some (.int x3), some (.int x4), some (.int x5), none]) (st' := [(.int (-1)), (.int (I 531 x5.toNatClampNeg)), (.int x2)]) (I1 := I) (T1 := T) rfl ?_
    refine ev_br (p := (I 531 x5.toNatClampNeg) = (-1)) (a := 18) (b := 20) (st' := [(.int x2)]) inferInstance rfl rfl (fun hb => ?_) (fun hb => ?_)
    · have hq := hq.1 hb
      refine ev_seq 2 (ip' := 21) (loc' := [some (.ref 46), some (.int x1), some (.int x2), some (.int x3), some (.int x4), some (.int x5), none]) (st' := [(.int 0), (.int x2)]) (I1 := I) (T1 := T) rfl ?_
      refine ev_fg [true, true, false, true, true, true, true] (loc' := [some (.ref 46), some (.int x1), none, some (.int x3), some (.int x4), some (.int x5), none]) rfl ?_
      exact s_M_weighs_21 (T := T) hq
    · have hq := hq.2 hb
      refine ev_seq 1 (ip' := 21) (loc' := [some (.ref 46), some (.int x1), some (.int x2), some (.int x3), some (.int x4), some (.int x5), none]) (st' := [(.int 1), (.int x2)]) (I1 := I) (T1 := T) rfl ?_
      refine ev_fg [true, true, false, true, true, true, true] (loc' := [some (.ref 46), some (.int x1), none, some (.int x3), some (.int x4), some (.int x5), none]) rfl ?_
      exact s_M_weighs_21 (T := T) hq
def t_M_weighs_0 (E : MEnv) (I : II) (T : TT) (Q : QQ) (x1 : Int32) : Prop := t_M_weighs_8 E I T Q x1 0 0 0 0
theorem s_M_weighs_0 {E : MEnv} {I : II} {T : TT} {Q : QQ} {x1 : Int32} (hq : t_M_weighs_0 E I T Q x1) : ev E 227 0 [some (.ref 46), some (.int x1), none, none, none, none, none] [] I T Q := by
  unfold t_M_weighs_0 at hq
  refine ev_seq 8 (ip' := 8) (loc' := [some (.ref 46), some (.int x1), some (.int 0), some (.int 0), some (.int 0), some (.int 0), none]) (st' := []) (I1 := I) (T1 := T) rfl ?_
  exact s_M_weighs_8 (T := T) hq
/-- FeltHarnessModel.willing(I)I -/
def t_M_willing_39 (E : MEnv) (I : II) (T : TT) (Q : QQ) (x1 : Int32) (x3 : Int32) (y0 : Int32) (y1 : Int32) : Prop := ev E 288 20 [some (.ref 46), some (.int x1), some (.int (y0 ||| y1)), some (.int (x3 + 1))] [] I T Q
theorem s_M_willing_39 {E : MEnv} {I : II} {T : TT} {Q : QQ} {x1 : Int32} {x3 : Int32} {y0 : Int32} {y1 : Int32} (hq : t_M_willing_39 E I T Q x1 x3 y0 y1) : ev E 288 39 [some (.ref 46), some (.int x1), none, some (.int x3)] [(.int y1), (.int y0)] I T Q := by
  unfold t_M_willing_39 at hq
  refine ev_seq 4 (ip' := 20) (loc' := [some (.ref 46), some (.int x1), some (.int (y0 ||| y1)), some (.int (x3 + 1))]) (st' := []) (I1 := I) (T1 := T) rfl ?_
  exact hq
def t_M_willing_20 (E : MEnv) (I : II) (T : TT) (Q : QQ) (x1 : Int32) (x2 : Int32) (x3 : Int32) : Prop := ((I 50 0) ≤ x3 → (Q (.inl (some (.int x2))) I T)) ∧ (¬ ((I 50 0) ≤ x3) → (ev E 150 0 [some (.ref 46), some (.ref 508), some (.int x3), some (.int x1)] [] I T (KI (fun v1 I1 T1 => (v1 = 0 → (t_M_willing_39 E I1 T1 Q x1 x3 x2 0)) ∧ (¬ (v1 = 0) → (t_M_willing_39 E I1 T1 Q x1 x3 x2 ((1 : Int32) <<< (x3 &&& 31))))) (fun x I1 T1 => Q (.inr x) I1 T1))))
theorem s_M_willing_20 {E : MEnv} {I : II} {T : TT} {Q : QQ} {x1 : Int32} {x2 : Int32} {x3 : Int32} (hq : t_M_willing_20 E I T Q x1 x2 x3) : ev E 288 20 [some (.ref 46), some (.int x1), some (.int x2), some (.int x3)] [] I T Q := by
  unfold t_M_willing_20 at hq
  refine ev_seq 5 (ip' := 25) (loc' := [some (.ref 46), some (.int x1), some (.int x2), some (.int x3)]) (st' := [(.int (I 50 0)), (.int x3)]) (I1 := I) (T1 := T) rfl ?_
  refine ev_br (p := (I 50 0) ≤ x3) (a := 43) (b := 26) (st' := []) inferInstance rfl rfl (fun hb => ?_) (fun hb => ?_)
  · have hq := hq.1 hb
    refine ev_seq 1 (ip' := 44) (loc' := [some (.ref 46), some (.int x1), some (.int x2), some (.int x3)]) (st' := [(.int x2)]) (I1 := I) (T1 := T) rfl ?_
    exact ev_ret rfl rfl hq
  · have hq := hq.2 hb
    refine ev_seq 6 (ip' := 32) (loc' := [some (.ref 46), some (.int x1), some (.int x2), some (.int x3)]) (st' := [(.int x1), (.int x3), (.ref 508), (.ref 46), (.int x2)]) (I1 := I) (T1 := T) rfl ?_
    refine ev_callI rfl rfl rfl (fun v1 I1 T1 hq => ?_) (fun x I1 T1 hq => ?_) hq
    · refine ev_br (p := v1 = 0) (a := 38) (b := 34) (st' := [(.int x2)]) inferInstance rfl rfl (fun hb => ?_) (fun hb => ?_)
      · have hq := hq.1 hb
        refine ev_seq 1 (ip' := 39) (loc' := [some (.ref 46), some (.int x1), some (.int x2), some (.int x3)]) (st' := [(.int 0), (.int x2)]) (I1 := I1) (T1 := T1) rfl ?_
        refine ev_fg [true, true, false, true] (loc' := [some (.ref 46), some (.int x1), none, some (.int x3)]) rfl ?_
        exact s_M_willing_39 (T := T1) hq
      · have hq := hq.2 hb
        refine ev_seq 4 (ip' := 39) (loc' := [some (.ref 46), some (.int x1), some (.int x2), some (.int x3)]) (st' := [(.int ((1 : Int32) <<< (x3 &&& 31))), (.int x2)]) (I1 := I1) (T1 := T1) rfl ?_
        refine ev_fg [true, true, false, true] (loc' := [some (.ref 46), some (.int x1), none, some (.int x3)]) rfl ?_
        exact s_M_willing_39 (T := T1) hq
    · exact ⟨by decide, hq⟩
def t_M_willing_10 (E : MEnv) (I : II) (T : TT) (Q : QQ) (x1 : Int32) (y1 : Int32) : Prop := ev E 58 0 [some (.ref 46), some (.int y1), some (.int 1), some (.int 1)] [] I T (KI (fun v1 I1 T1 => (v1 = 0 → (t_M_willing_20 E I1 T1 Q x1 0 0)) ∧ (¬ (v1 = 0) → (Q (.inl (some (.int 0))) I1 T1))) (fun x I1 T1 => Q (.inr x) I1 T1))
theorem s_M_willing_10 {E : MEnv} {I : II} {T : TT} {Q : QQ} {x1 : Int32} {y1 : Int32} (hq : t_M_willing_10 E I T Q x1 y1) : ev E 288 10 [some (.ref 46), some (.int x1), none, none] [(.int y1), (.ref 46)] I T Q := by
  unfold t_M_willing_10 at hq
  refine ev_seq 2 (ip' := 12) (loc' := [some (.ref 46), some (.int x1), none, none]) (st' := [(.int 1), (.int 1), (.int y1), (.ref 46)]) (I1 := I) (T1 := T) rfl ?_
  refine ev_callI rfl rfl rfl (fun v1 I1 T1 hq => ?_) (fun x I1 T1 hq => ?_) hq
  · refine ev_br (p := v1 = 0) (a := 16) (b := 14) (st' := []) inferInstance rfl rfl (fun hb => ?_) (fun hb => ?_)
    · have hq := hq.1 hb
      refine ev_seq 4 (ip' := 20) (loc' := [some (.ref 46), some (.int x1), some (.int 0), some (.int 0)]) (st' := []) (I1 := I1) (T1 := T1) rfl ?_
      exact s_M_willing_20 (T := T1) hq
    · have hq := hq.2 hb
      refine ev_seq 1 (ip' := 15) (loc' := [some (.ref 46), some (.int x1), none, none]) (st' := [(.int 0)]) (I1 := I1) (T1 := T1) rfl ?_
      exact ev_ret rfl rfl hq
  · exact ⟨by decide, hq⟩
def t_M_willing_0 (E : MEnv) (I : II) (T : TT) (Q : QQ) (x1 : Int32) : Prop := ev E 200 0 [some (.int x1)] [] (m_up I 46 0 0) T (KI (fun v1 I1 T1 => (v1 = 0 → (t_M_willing_10 E I1 T1 Q x1 1)) ∧ (¬ (v1 = 0) → (t_M_willing_10 E I1 T1 Q x1 0))) (fun _ _ _ => False))
theorem s_M_willing_0 {E : MEnv} {I : II} {T : TT} {Q : QQ} {x1 : Int32} (hq : t_M_willing_0 E I T Q x1) : ev E 288 0 [some (.ref 46), some (.int x1), none, none] [] I T Q := by
  unfold t_M_willing_0 at hq
  refine ev_seq 5 (ip' := 5) (loc' := [some (.ref 46), some (.int x1), none, none]) (st' := [(.int x1), (.ref 46)]) (I1 := m_up I 46 0 0) (T1 := T) rfl ?_
  refine ev_callI rfl rfl rfl (fun v1 I1 T1 hq => ?_) (fun x I1 T1 hq => ?_) hq
  · refine ev_br (p := v1 = 0) (a := 7) (b := 9) (st' := [(.ref 46)]) inferInstance rfl rfl (fun hb => ?_) (fun hb => ?_)
    · have hq := hq.1 hb
      refine ev_seq 2 (ip' := 10) (loc' := [some (.ref 46), some (.int x1), none, none]) (st' := [(.int 1), (.ref 46)]) (I1 := I1) (T1 := T1) rfl ?_
      exact s_M_willing_10 (T := T1) hq
    · have hq := hq.2 hb
      refine ev_seq 1 (ip' := 10) (loc' := [some (.ref 46), some (.int x1), none, none]) (st' := [(.int 0), (.ref 46)]) (I1 := I1) (T1 := T1) rfl ?_
      exact s_M_willing_10 (T := T1) hq
  · exact hq.elim
/-- FeltHarnessModel.wordHere()I -/
def t_M_wordHere_42 (E : MEnv) (I : II) (T : TT) (Q : QQ) (y0 : Int32) : Prop := Q (.inl (some (.int y0))) I T
theorem s_M_wordHere_42 {E : MEnv} {I : II} {T : TT} {Q : QQ} {y0 : Int32} (hq : t_M_wordHere_42 E I T Q y0) : ev E 68 42 [none, none, none] [(.int y0)] I T Q := by
  unfold t_M_wordHere_42 at hq
  exact ev_ret rfl rfl hq
def t_M_wordHere_33 (E : MEnv) (I : II) (T : TT) (Q : QQ) (x2 : Int32) (y0 : Int32) : Prop := ev E 68 6 [some (.ref 46), some (.int y0), some (.int (x2 + 1))] [] I T Q
theorem s_M_wordHere_33 {E : MEnv} {I : II} {T : TT} {Q : QQ} {x2 : Int32} {y0 : Int32} (hq : t_M_wordHere_33 E I T Q x2 y0) : ev E 68 33 [some (.ref 46), none, some (.int x2)] [(.int y0)] I T Q := by
  unfold t_M_wordHere_33 at hq
  refine ev_seq 3 (ip' := 6) (loc' := [some (.ref 46), some (.int y0), some (.int (x2 + 1))]) (st' := []) (I1 := I) (T1 := T) rfl ?_
  exact hq
def t_M_wordHere_6 (E : MEnv) (I : II) (T : TT) (Q : QQ) (x1 : Int32) (x2 : Int32) : Prop := ev E 61 0 [some (.ref 46), some (.int ((I 46 4) + x2))] [] I T (KI (fun v1 I1 T1 => ev E 66 0 [some (.int v1)] [] I1 T1 (KI (fun v2 I2 T2 => (v2 = 0 → ((x2 ≤ 6 → (t_M_wordHere_42 E I2 T2 Q x1)) ∧ (¬ (x2 ≤ 6) → (t_M_wordHere_42 E I2 T2 Q (-1))))) ∧ (¬ (v2 = 0) → ((6 ≤ x2 → (t_M_wordHere_33 E I2 T2 Q x2 x1)) ∧ (¬ (6 ≤ x2) → (ev E 61 0 [some (.ref 46), some (.int ((I2 46 4) + x2))] [] I2 T2 (KI (fun v3 I3 T3 => t_M_wordHere_33 E I3 T3 Q x2 ((((27 * x1) + v3) - 97) + 1)) (fun x I1 T1 => Q (.inr x) I1 T1))))))) (fun _ _ _ => False))) (fun x I1 T1 => Q (.inr x) I1 T1))
theorem s_M_wordHere_6 {E : MEnv} {I : II} {T : TT} {Q : QQ} {x1 : Int32} {x2 : Int32} (hq : t_M_wordHere_6 E I T Q x1 x2) : ev E 68 6 [some (.ref 46), some (.int x1), some (.int x2)] [] I T Q := by
  unfold t_M_wordHere_6 at hq
  refine ev_seq 5 (ip' := 11) (loc' := [some (.ref 46), some (.int x1), some (.int x2)]) (st' := [(.int ((I 46 4) + x2)), (.ref 46)]) (I1 := I) (T1 := T) rfl ?_
  refine ev_callI rfl rfl rfl (fun v1 I1 T1 hq => ?_) (fun x I1 T1 hq => ?_) hq
  · refine ev_callI rfl rfl rfl (fun v2 I2 T2 hq => ?_) (fun x I1 T1 hq => ?_) hq
    · refine ev_br (p := v2 = 0) (a := 36) (b := 14) (st' := []) inferInstance rfl rfl (fun hb => ?_) (fun hb => ?_)
      · have hq := hq.1 hb
        refine ev_seq 2 (ip' := 38) (loc' := [some (.ref 46), some (.int x1), some (.int x2)]) (st' := [(.int 6), (.int x2)]) (I1 := I2) (T1 := T2) rfl ?_
        refine ev_br (p := x2 ≤ 6) (a := 41) (b := 39) (st' := []) inferInstance rfl rfl (fun hb => ?_) (fun hb => ?_)
        · have hq := hq.1 hb
          refine ev_seq 1 (ip' := 42) (loc' := [some (.ref 46), some (.int x1), some (.int x2)]) (st' := [(.int x1)]) (I1 := I2) (T1 := T2) rfl ?_
          refine ev_fg [false, false, false] (loc' := [none, none, none]) rfl ?_
          exact s_M_wordHere_42 (T := T2) hq
        · have hq := hq.2 hb
          refine ev_seq 2 (ip' := 42) (loc' := [some (.ref 46), some (.int x1), some (.int x2)]) (st' := [(.int (-1))]) (I1 := I2) (T1 := T2) rfl ?_
          refine ev_fg [false, false, false] (loc' := [none, none, none]) rfl ?_
          exact s_M_wordHere_42 (T := T2) hq
      · have hq := hq.2 hb
        refine ev_seq 2 (ip' := 16) (loc' := [some (.ref 46), some (.int x1), some (.int x2)]) (st' := [(.int 6), (.int x2)]) (I1 := I2) (T1 := T2) rfl ?_
        refine ev_br (p := 6 ≤ x2) (a := 32) (b := 17) (st' := []) inferInstance rfl rfl (fun hb => ?_) (fun hb => ?_)
        · have hq := hq.1 hb
          refine ev_seq 1 (ip' := 33) (loc' := [some (.ref 46), some (.int x1), some (.int x2)]) (st' := [(.int x1)]) (I1 := I2) (T1 := T2) rfl ?_
          refine ev_fg [true, false, true] (loc' := [some (.ref 46), none, some (.int x2)]) rfl ?_
          exact s_M_wordHere_33 (T := T2) hq
        · have hq := hq.2 hb
          refine ev_seq 8 (ip' := 25) (loc' := [some (.ref 46), some (.int x1), some (.int x2)]) (st' := [(.int ((I2 46 4) + x2)), (.ref 46), (.int (27 * x1))]) (I1 := I2) (T1 := T2) rfl ?_
          refine ev_callI rfl rfl rfl (fun v3 I3 T3 hq => ?_) (fun x I1 T1 hq => ?_) hq
          · refine ev_seq 6 (ip' := 33) (loc' := [some (.ref 46), some (.int x1), some (.int x2)]) (st' := [(.int ((((27 * x1) + v3) - 97) + 1))]) (I1 := I3) (T1 := T3) rfl ?_
            refine ev_fg [true, false, true] (loc' := [some (.ref 46), none, some (.int x2)]) rfl ?_
            exact s_M_wordHere_33 (T := T3) hq
          · exact ⟨by decide, hq⟩
    · exact hq.elim
  · exact ⟨by decide, hq⟩
def t_M_wordHere_0 (E : MEnv) (I : II) (T : TT) (Q : QQ) : Prop := ev E 60 0 [some (.ref 46)] [] I T (KV (fun I1 T1 => t_M_wordHere_6 E I1 T1 Q 0 0) (fun x I1 T1 => Q (.inr x) I1 T1))
theorem s_M_wordHere_0 {E : MEnv} {I : II} {T : TT} {Q : QQ} (hq : t_M_wordHere_0 E I T Q) : ev E 68 0 [some (.ref 46), none, none] [] I T Q := by
  unfold t_M_wordHere_0 at hq
  refine ev_seq 1 (ip' := 1) (loc' := [some (.ref 46), none, none]) (st' := [(.ref 46)]) (I1 := I) (T1 := T) rfl ?_
  refine ev_callV rfl rfl rfl (fun I1 T1 hq => ?_) (fun x I1 T1 hq => ?_) hq
  · refine ev_seq 4 (ip' := 6) (loc' := [some (.ref 46), some (.int 0), some (.int 0)]) (st' := []) (I1 := I1) (T1 := T1) rfl ?_
    exact s_M_wordHere_6 (T := T1) hq
  · exact ⟨by decide, hq⟩
/-- FeltHarnessModel.work(I)I -/
def t_M_work_53 (E : MEnv) (I : II) (T : TT) (Q : QQ) : Prop := ((I 46 5) = 0 → ((¬ ((m_up I 46 3 (-1)) 46 34) < 0 ∧ ((m_up I 46 3 (-1)) 46 34).toNatClampNeg < 16) ∧ (ev E 147 0 [some (.ref 508), some (.ref (511 + ((m_up I 46 3 (-1)) 46 34).toNatClampNeg)), none] [] (m_up I 46 3 (-1)) T (KV (fun I2 T2 => ev E 148 0 [some (.ref 46), some (.int 0), some (.int ((m_up (m_up (m_up (m_up I2 46 34 ((I2 46 34) + 1)) 46 38 0) 46 39 0) 46 35 0) 46 28)), none, none] [] (m_up (m_up (m_up (m_up I2 46 34 ((I2 46 34) + 1)) 46 38 0) 46 39 0) 46 35 0) T2 (KV (fun I3 T3 => Q (.inl (some (.int (I3 46 39)))) I3 T3) (fun x I1 T1 => Q (.inr x) I1 T1))) (fun _ _ _ => False))))) ∧ (¬ ((I 46 5) = 0) → (ev E 75 0 [some (.ref 46)] [] I T (KI (fun v4 I4 T4 => Q (.inl (some (.int v4))) I4 T4) (fun x I1 T1 => Q (.inr x) I1 T1))))
theorem s_M_work_53 {E : MEnv} {I : II} {T : TT} {Q : QQ} (hq : t_M_work_53 E I T Q) : ev E 144 53 [some (.ref 46), none] [] I T Q := by
  unfold t_M_work_53 at hq
  refine ev_seq 2 (ip' := 55) (loc' := [some (.ref 46), none]) (st' := [(.int (I 46 5))]) (I1 := I) (T1 := T) rfl ?_
  refine ev_br (p := (I 46 5) = 0) (a := 59) (b := 56) (st' := []) inferInstance rfl rfl (fun hb => ?_) (fun hb => ?_)
  · have hq := hq.1 hb
    refine ev_seq 9 (ip' := 68) (loc' := [some (.ref 46), none]) (st' := [(.int ((m_up I 46 3 (-1)) 46 34)), (.ref 510), (.ref 508)]) (I1 := m_up I 46 3 (-1)) (T1 := T) rfl ?_
    obtain ⟨hg, hq⟩ := hq
    have hr1 := hg
    refine ev_aald rfl rfl hg (RF_510 hg.2) ?_
    refine ev_callV rfl rfl rfl (fun I2 T2 hq => ?_) (fun x I1 T1 hq => ?_) hq
    · refine ev_seq 19 (ip' := 89) (loc' := [some (.ref 46), none]) (st' := [(.int ((m_up (m_up (m_up (m_up I2 46 34 ((I2 46 34) + 1)) 46 38 0) 46 39 0) 46 35 0) 46 28)), (.int 0), (.ref 46)]) (I1 := m_up (m_up (m_up (m_up I2 46 34 ((I2 46 34) + 1)) 46 38 0) 46 39 0) 46 35 0) (T1 := T2) rfl ?_
      refine ev_callV rfl rfl rfl (fun I3 T3 hq => ?_) (fun x I1 T1 hq => ?_) hq
      · refine ev_seq 2 (ip' := 92) (loc' := [some (.ref 46), none]) (st' := [(.int (I3 46 39))]) (I1 := I3) (T1 := T3) rfl ?_
        exact ev_ret rfl rfl hq
      · exact ⟨by decide, hq⟩
    · exact hq.elim
  · have hq := hq.2 hb
    refine ev_seq 1 (ip' := 57) (loc' := [some (.ref 46), none]) (st' := [(.ref 46)]) (I1 := I) (T1 := T) rfl ?_
    refine ev_callI rfl rfl rfl (fun v4 I4 T4 hq => ?_) (fun x I1 T1 hq => ?_) hq
    · exact ev_ret rfl rfl hq
    · exact ⟨by decide, hq⟩
def t_M_work_40 (E : MEnv) (I : II) (T : TT) (Q : QQ) : Prop := ((I 46 5) = 0 → (((I 46 2) ≤ (I 46 4) → (t_M_work_53 E I T Q )) ∧ (¬ ((I 46 2) ≤ (I 46 4)) → (ev E 145 0 [some (.ref 46), none, none] [] I T (KV (fun I1 T1 => ev E 60 0 [some (.ref 46)] [] I1 T1 (KV (fun I2 T2 => ev E 144 40 [some (.ref 46), none] [] I2 T2 Q) (fun x I1 T1 => Q (.inr x) I1 T1))) (fun x I1 T1 => Q (.inr x) I1 T1)))))) ∧ (¬ ((I 46 5) = 0) → (t_M_work_53 E I T Q ))
theorem s_M_work_40 {E : MEnv} {I : II} {T : TT} {Q : QQ} (hq : t_M_work_40 E I T Q) : ev E 144 40 [some (.ref 46), none] [] I T Q := by
  unfold t_M_work_40 at hq
  refine ev_seq 2 (ip' := 42) (loc' := [some (.ref 46), none]) (st' := [(.int (I 46 5))]) (I1 := I) (T1 := T) rfl ?_
  refine ev_br (p := (I 46 5) = 0) (a := 43) (b := 53) (st' := []) inferInstance rfl rfl (fun hb => ?_) (fun hb => ?_)
  · have hq := hq.1 hb
    refine ev_seq 4 (ip' := 47) (loc' := [some (.ref 46), none]) (st' := [(.int (I 46 2)), (.int (I 46 4))]) (I1 := I) (T1 := T) rfl ?_
    refine ev_br (p := (I 46 2) ≤ (I 46 4)) (a := 53) (b := 48) (st' := []) inferInstance rfl rfl (fun hb => ?_) (fun hb => ?_)
    · have hq := hq.1 hb
      exact s_M_work_53 (T := T) hq
    · have hq := hq.2 hb
      refine ev_seq 1 (ip' := 49) (loc' := [some (.ref 46), none]) (st' := [(.ref 46)]) (I1 := I) (T1 := T) rfl ?_
      refine ev_callV rfl rfl rfl (fun I1 T1 hq => ?_) (fun x I1 T1 hq => ?_) hq
      · refine ev_seq 1 (ip' := 51) (loc' := [some (.ref 46), none]) (st' := [(.ref 46)]) (I1 := I1) (T1 := T1) rfl ?_
        refine ev_callV rfl rfl rfl (fun I2 T2 hq => ?_) (fun x I1 T1 hq => ?_) hq
        · refine ev_seq 1 (ip' := 40) (loc' := [some (.ref 46), none]) (st' := []) (I1 := I2) (T1 := T2) rfl ?_
          exact hq
        · exact ⟨by decide, hq⟩
      · exact ⟨by decide, hq⟩
  · have hq := hq.2 hb
    exact s_M_work_53 (T := T) hq
def t_M_work_16 (E : MEnv) (I : II) (T : TT) (Q : QQ) (x1 : Int32) (y1 : Int32) : Prop := ev E 58 0 [some (.ref 46), some (.int y1), some (.int 1), some (.int 1)] [] I T (KI (fun v1 I1 T1 => (v1 = 0 → (((I1 46 34) = 16 → (Q (.inl (some (.int (-20)))) (m_up (m_up I1 46 1 0) 46 3 (-1)) T1)) ∧ (¬ ((I1 46 34) = 16) → (ev E 59 0 [some (.ref 46), some (.int x1)] [] I1 T1 (KV (fun I2 T2 => t_M_work_40 E (m_up I2 46 28 0) T2 Q ) (fun x I1 T1 => Q (.inr x) I1 T1)))))) ∧ (¬ (v1 = 0) → (Q (.inl (some (.int 0))) I1 T1))) (fun x I1 T1 => Q (.inr x) I1 T1))
theorem s_M_work_16 {E : MEnv} {I : II} {T : TT} {Q : QQ} {x1 : Int32} {y1 : Int32} (hq : t_M_work_16 E I T Q x1 y1) : ev E 144 16 [some (.ref 46), some (.int x1)] [(.int y1), (.ref 46)] I T Q := by
  unfold t_M_work_16 at hq
  refine ev_seq 2 (ip' := 18) (loc' := [some (.ref 46), some (.int x1)]) (st' := [(.int 1), (.int 1), (.int y1), (.ref 46)]) (I1 := I) (T1 := T) rfl ?_
  refine ev_callI rfl rfl rfl (fun v1 I1 T1 hq => ?_) (fun x I1 T1 hq => ?_) hq
  · refine ev_br (p := v1 = 0) (a := 22) (b := 20) (st' := []) inferInstance rfl rfl (fun hb => ?_) (fun hb => ?_)
    · have hq := hq.1 hb
      refine ev_seq 3 (ip' := 25) (loc' := [some (.ref 46), some (.int x1)]) (st' := [(.int 16), (.int (I1 46 34))]) (I1 := I1) (T1 := T1) rfl ?_
      refine ev_br (p := (I1 46 34) = 16) (a := 26) (b := 34) (st' := []) inferInstance rfl rfl (fun hb => ?_) (fun hb => ?_)
      · have hq := hq.1 hb
        refine ev_seq 7 (ip' := 33) (loc' := [some (.ref 46), some (.int x1)]) (st' := [(.int (-20))]) (I1 := m_up (m_up I1 46 1 0) 46 3 (-1)) (T1 := T1) rfl ?_
        exact ev_ret rfl rfl hq
      · have hq := hq.2 hb
        refine ev_seq 2 (ip' := 36) (loc' := [some (.ref 46), some (.int x1)]) (st' := [(.int x1), (.ref 46)]) (I1 := I1) (T1 := T1) rfl ?_
        refine ev_callV rfl rfl rfl (fun I2 T2 hq => ?_) (fun x I1 T1 hq => ?_) hq
        · refine ev_seq 3 (ip' := 40) (loc' := [some (.ref 46), some (.int x1)]) (st' := []) (I1 := m_up I2 46 28 0) (T1 := T2) rfl ?_
          refine ev_fg [true, false] (loc' := [some (.ref 46), none]) rfl ?_
          exact s_M_work_40 (T := T2) hq
        · exact ⟨by decide, hq⟩
    · have hq := hq.2 hb
      refine ev_seq 1 (ip' := 21) (loc' := [some (.ref 46), some (.int x1)]) (st' := [(.int 0)]) (I1 := I1) (T1 := T1) rfl ?_
      exact ev_ret rfl rfl hq
  · exact ⟨by decide, hq⟩
def t_M_work_13 (E : MEnv) (I : II) (T : TT) (Q : QQ) (x1 : Int32) : Prop := t_M_work_16 E I T Q x1 1
theorem s_M_work_13 {E : MEnv} {I : II} {T : TT} {Q : QQ} {x1 : Int32} (hq : t_M_work_13 E I T Q x1) : ev E 144 13 [some (.ref 46), some (.int x1)] [(.ref 46)] I T Q := by
  unfold t_M_work_13 at hq
  refine ev_seq 2 (ip' := 16) (loc' := [some (.ref 46), some (.int x1)]) (st' := [(.int 1), (.ref 46)]) (I1 := I) (T1 := T) rfl ?_
  exact s_M_work_16 (T := T) hq
def t_M_work_0 (E : MEnv) (I : II) (T : TT) (Q : QQ) (x1 : Int32) : Prop := ev E 57 0 [some (.int x1), some (.int 0), some (.int ((m_up I 46 0 0) 46 1))] [] (m_up I 46 0 0) T (KI (fun v1 I1 T1 => (v1 = 0 → (t_M_work_13 E I1 T1 Q x1)) ∧ (¬ (v1 = 0) → ((x1 ≤ 150 → (t_M_work_16 E I1 T1 Q x1 0)) ∧ (¬ (x1 ≤ 150) → (t_M_work_13 E I1 T1 Q x1))))) (fun _ _ _ => False))
theorem s_M_work_0 {E : MEnv} {I : II} {T : TT} {Q : QQ} {x1 : Int32} (hq : t_M_work_0 E I T Q x1) : ev E 144 0 [some (.ref 46), some (.int x1)] [] I T Q := by
  unfold t_M_work_0 at hq
  refine ev_seq 8 (ip' := 8) (loc' := [some (.ref 46), some (.int x1)]) (st' := [(.int ((m_up I 46 0 0) 46 1)), (.int 0), (.int x1), (.ref 46)]) (I1 := m_up I 46 0 0) (T1 := T) rfl ?_
  refine ev_callI rfl rfl rfl (fun v1 I1 T1 hq => ?_) (fun x I1 T1 hq => ?_) hq
  · refine ev_br (p := v1 = 0) (a := 13) (b := 10) (st' := [(.ref 46)]) inferInstance rfl rfl (fun hb => ?_) (fun hb => ?_)
    · have hq := hq.1 hb
      exact s_M_work_13 (T := T1) hq
    · have hq := hq.2 hb
      refine ev_seq 2 (ip' := 12) (loc' := [some (.ref 46), some (.int x1)]) (st' := [(.int 150), (.int x1), (.ref 46)]) (I1 := I1) (T1 := T1) rfl ?_
      refine ev_br (p := x1 ≤ 150) (a := 15) (b := 13) (st' := [(.ref 46)]) inferInstance rfl rfl (fun hb => ?_) (fun hb => ?_)
      · have hq := hq.1 hb
        refine ev_seq 1 (ip' := 16) (loc' := [some (.ref 46), some (.int x1)]) (st' := [(.int 0), (.ref 46)]) (I1 := I1) (T1 := T1) rfl ?_
        exact s_M_work_16 (T := T1) hq
      · have hq := hq.2 hb
        exact s_M_work_13 (T := T1) hq
  · exact hq.elim
/-- FeltHarnessModel.worstAt(I)I -/
def t_M_worstAt_66 (E : MEnv) (I : II) (T : TT) (Q : QQ) (x1 : Int32) (x2 : Int32) (x3 : Int32) (x4 : Int32) : Prop := ev E 261 24 [some (.ref 46), some (.int x1), some (.int x2), some (.int x3), some (.int (x4 + 1)), none] [] I T Q
theorem s_M_worstAt_66 {E : MEnv} {I : II} {T : TT} {Q : QQ} {x1 : Int32} {x2 : Int32} {x3 : Int32} {x4 : Int32} (hq : t_M_worstAt_66 E I T Q x1 x2 x3 x4) : ev E 261 66 [some (.ref 46), some (.int x1), some (.int x2), some (.int x3), some (.int x4), none] [] I T Q := by
  unfold t_M_worstAt_66 at hq
  refine ev_seq 2 (ip' := 24) (loc' := [some (.ref 46), some (.int x1), some (.int x2), some (.int x3), some (.int (x4 + 1)), none]) (st' := []) (I1 := I) (T1 := T) rfl ?_
  exact hq
def t_M_worstAt_24 (E : MEnv) (I : II) (T : TT) (Q : QQ) (x1 : Int32) (x2 : Int32) (x3 : Int32) (x4 : Int32) : Prop := ((I 50 0) ≤ x4 → (ev E 261 16 [some (.ref 46), some (.int x1), some (.int x2), some (.int (x3 + 1)), none, none] [] I T Q)) ∧ (¬ ((I 50 0) ≤ x4) → ((¬ (0 + x4) < 0 ∧ (0 + x4).toNatClampNeg < 29) ∧ (((I 508 (0 + x4).toNatClampNeg) = (-1) → (t_M_worstAt_66 E I T Q x1 x2 x3 x4)) ∧ (¬ ((I 508 (0 + x4).toNatClampNeg) = (-1)) → (ev E 253 0 [some (.ref 46), some (.int x3), some (.int x4), none] [] I T (KI (fun v1 I1 T1 => (v1 = 0 → (t_M_worstAt_66 E I1 T1 Q x1 x2 x3 x4)) ∧ (¬ (v1 = 0) → ((¬ (16 + x1) < 0 ∧ (16 + x1).toNatClampNeg < 29) ∧ ((¬ (I1 509 (16 + x1).toNatClampNeg) < 0 ∧ (I1 509 (16 + x1).toNatClampNeg).toNatClampNeg < 1000) ∧ ((¬ (I1 509 (16 + x1).toNatClampNeg) < 0 ∧ (I1 509 (16 + x1).toNatClampNeg).toNatClampNeg < 1000) ∧ ((¬ (I1 509 (16 + x1).toNatClampNeg) < 0 ∧ (I1 509 (16 + x1).toNatClampNeg).toNatClampNeg < 1000) ∧ (ev E 163 0 [some (.int x2), some (.int ((m_up I1 534 (I1 509 (16 + x1).toNatClampNeg).toNatClampNeg ((I1 534 (I1 509 (16 + x1).toNatClampNeg).toNatClampNeg) + 1)) 534 (I1 509 (16 + x1).toNatClampNeg).toNatClampNeg))] [] (m_up I1 534 (I1 509 (16 + x1).toNatClampNeg).toNatClampNeg ((I1 534 (I1 509 (16 + x1).toNatClampNeg).toNatClampNeg) + 1)) T1 (KI (fun v2 I2 T2 => t_M_worstAt_66 E I2 T2 Q x1 v2 x3 x4) (fun _ _ _ => False))))))))) (fun x I1 T1 => Q (.inr x) I1 T1)))))))
theorem s_M_worstAt_24 {E : MEnv} {I : II} {T : TT} {Q : QQ} {x1 : Int32} {x2 : Int32} {x3 : Int32} {x4 : Int32} (hq : t_M_worstAt_24 E I T Q x1 x2 x3 x4) : ev E 261 24 [some (.ref 46), some (.int x1), some (.int x2), some (.int x3), some (.int x4), none] [] I T Q := by
  unfold t_M_worstAt_24 at hq
  refine ev_seq 5 (ip' := 29) (loc' := [some (.ref 46), some (.int x1), some (.int x2), some (.int x3), some (.int x4), none]) (st' := [(.int (I 50 0)), (.int x4)]) (I1 := I) (T1 := T) rfl ?_
  refine ev_br (p := (I 50 0) ≤ x4) (a := 68) (b := 30) (st' := []) inferInstance rfl rfl (fun hb => ?_) (fun hb => ?_)
  · have hq := hq.1 hb
    refine ev_seq 2 (ip' := 16) (loc' := [some (.ref 46), some (.int x1), some (.int x2), some (.int (x3 + 1)), some (.int x4), none]) (st' := []) (I1 := I) (T1 := T) rfl ?_
    refine ev_fg [true, true, true, true, false, true] (loc' := [some (.ref 46), some (.int x1), some (.int x2), some (.int (x3 + 1)), none, none]) rfl ?_
    exact hq
  · have hq := hq.2 hb
    refine ev_seq 5 (ip' := 35) (loc' := [some (.ref 46), some (.int x1), some (.int x2), some (.int x3), some (.int x4), none]) (st' := [(.int (0 + x4)), (.ref 508)]) (I1 := I) (T1 := T) rfl ?_
    obtain ⟨hg, hq⟩ := hq
    refine ev_iald rfl rfl hg ?_
    refine ev_seq 1 (ip' := 37) (loc' := [some (.ref 46), some (.int x1), some (.int x2), some (.int x3), some (.int x4), none]) (st' := [(.int (-1)), (.int (I 508 (0 + x4).toNatClampNeg))]) (I1 := I) (T1 := T) rfl ?_
    refine ev_br (p := (I 508 (0 + x4).toNatClampNeg) = (-1)) (a := 66) (b := 38) (st' := []) inferInstance rfl rfl (fun hb => ?_) (fun hb => ?_)
    · have hq := hq.1 hb
      exact s_M_worstAt_66 (T := T) hq
    · have hq := hq.2 hb
      refine ev_seq 3 (ip' := 41) (loc' := [some (.ref 46), some (.int x1), some (.int x2), some (.int x3), some (.int x4), none]) (st' := [(.int x4), (.int x3), (.ref 46)]) (I1 := I) (T1 := T) rfl ?_
      refine ev_callI rfl rfl rfl (fun v1 I1 T1 hq => ?_) (fun x I1 T1 hq => ?_) hq
      · refine ev_br (p := v1 = 0) (a := 43) (b := 44) (st' := []) inferInstance rfl rfl (fun hb => ?_) (fun hb => ?_)
        · have hq := hq.1 hb
          refine ev_seq 1 (ip' := 66) (loc' := [some (.ref 46), some (.int x1), some (.int x2), some (.int x3), some (.int x4), none]) (st' := []) (I1 := I1) (T1 := T1) rfl ?_
          exact s_M_worstAt_66 (T := T1) hq
        · have hq := hq.2 hb
          refine ev_seq 5 (ip' := 49) (loc' := [some (.ref 46), some (.int x1), some (.int x2), some (.int x3), some (.int x4), none]) (st' := [(.int (16 + x1)), (.ref 509)]) (I1 := I1) (T1 := T1) rfl ?_
          obtain ⟨hg, hq⟩ := hq
          refine ev_iald rfl rfl hg ?_
          refine ev_seq 5 (ip' := 55) (loc' := [some (.ref 46), some (.int x1), some (.int x2), some (.int x3), some (.int x4), some (.int (I1 509 (16 + x1).toNatClampNeg))]) (st' := [(.int (I1 509 (16 + x1).toNatClampNeg)), (.ref 534), (.int (I1 509 (16 + x1).toNatClampNeg)), (.ref 534)]) (I1 := I1) (T1 := T1) rfl ?_
          obtain ⟨hg, hq⟩ := hq
          refine ev_iald rfl rfl hg ?_
          refine ev_seq 2 (ip' := 58) (loc' := [some (.ref 46), some (.int x1), some (.int x2), some (.int x3), some (.int x4), some (.int (I1 509 (16 + x1).toNatClampNeg))]) (st' := [(.int ((I1 534 (I1 509 (16 + x1).toNatClampNeg).toNatClampNeg) + 1)), (.int (I1 509 (16 + x1).toNatClampNeg)), (.ref 534)]) (I1 := I1) (T1 := T1) rfl ?_
          obtain ⟨hg, hq⟩ := hq
          refine ev_iast rfl rfl hg ?_
          refine ev_seq 4 (ip' := 63) (loc' := [some (.ref 46), some (.int x1), some (.int x2), some (.int x3), some (.int x4), some (.int (I1 509 (16 + x1).toNatClampNeg))]) (st' := [(.int (I1 509 (16 + x1).toNatClampNeg)), (.ref 534), (.int x2)]) (I1 := m_up I1 534 (I1 509 (16 + x1).toNatClampNeg).toNatClampNeg ((I1 534 (I1 509 (16 + x1).toNatClampNeg).toNatClampNeg) + 1)) (T1 := T1) rfl ?_
          obtain ⟨hg, hq⟩ := hq
          refine ev_iald rfl rfl hg ?_
          refine ev_callI rfl rfl rfl (fun v2 I2 T2 hq => ?_) (fun x I1 T1 hq => ?_) hq
          · refine ev_seq 1 (ip' := 66) (loc' := [some (.ref 46), some (.int x1), some (.int v2), some (.int x3), some (.int x4), some (.int (I1 509 (16 + x1).toNatClampNeg))]) (st' := []) (I1 := I2) (T1 := T2) rfl ?_
            refine ev_fg [true, true, true, true, true, false] (loc' := [some (.ref 46), some (.int x1), some (.int v2), some (.int x3), some (.int x4), none]) rfl ?_
            exact s_M_worstAt_66 (T := T2) hq
          · exact hq.elim
      · exact ⟨by decide, hq⟩
def t_M_worstAt_16 (E : MEnv) (I : II) (T : TT) (Q : QQ) (x1 : Int32) (x2 : Int32) (x3 : Int32) : Prop := ((I 50 1) ≤ x3 → (Q (.inl (some (.int x2))) I T)) ∧ (¬ ((I 50 1) ≤ x3) → (t_M_worstAt_24 E I T Q x1 x2 x3 0))
theorem s_M_worstAt_16 {E : MEnv} {I : II} {T : TT} {Q : QQ} {x1 : Int32} {x2 : Int32} {x3 : Int32} (hq : t_M_worstAt_16 E I T Q x1 x2 x3) : ev E 261 16 [some (.ref 46), some (.int x1), some (.int x2), some (.int x3), none, none] [] I T Q := by
  unfold t_M_worstAt_16 at hq
  refine ev_seq 5 (ip' := 21) (loc' := [some (.ref 46), some (.int x1), some (.int x2), some (.int x3), none, none]) (st' := [(.int (I 50 1)), (.int x3)]) (I1 := I) (T1 := T) rfl ?_
  refine ev_br (p := (I 50 1) ≤ x3) (a := 70) (b := 22) (st' := []) inferInstance rfl rfl (fun hb => ?_) (fun hb => ?_)
  · have hq := hq.1 hb
    refine ev_seq 1 (ip' := 71) (loc' := [some (.ref 46), some (.int x1), some (.int x2), some (.int x3), none, none]) (st' := [(.int x2)]) (I1 := I) (T1 := T) rfl ?_
    exact ev_ret rfl rfl hq
  · have hq := hq.2 hb
    refine ev_seq 2 (ip' := 24) (loc' := [some (.ref 46), some (.int x1), some (.int x2), some (.int x3), some (.int 0), none]) (st' := []) (I1 := I) (T1 := T) rfl ?_
    exact s_M_worstAt_24 (T := T) hq
def t_M_worstAt_4 (E : MEnv) (I : II) (T : TT) (Q : QQ) (x1 : Int32) (x2 : Int32) (x3 : Int32) : Prop := (999 < x3 → (t_M_worstAt_16 E I T Q x1 x2 0)) ∧ (¬ (999 < x3) → ((¬ x3 < 0 ∧ x3.toNatClampNeg < 1000) ∧ (ev E 261 4 [some (.ref 46), some (.int x1), some (.int x2), some (.int (x3 + 1)), none, none] [] (m_up I 534 x3.toNatClampNeg 0) T Q)))
theorem s_M_worstAt_4 {E : MEnv} {I : II} {T : TT} {Q : QQ} {x1 : Int32} {x2 : Int32} {x3 : Int32} (hq : t_M_worstAt_4 E I T Q x1 x2 x3) : ev E 261 4 [some (.ref 46), some (.int x1), some (.int x2), some (.int x3), none, none] [] I T Q := by
  unfold t_M_worstAt_4 at hq
  refine ev_seq 2 (ip' := 6) (loc' := [some (.ref 46), some (.int x1), some (.int x2), some (.int x3), none, none]) (st' := [(.int 999), (.int x3)]) (I1 := I) (T1 := T) rfl ?_
  refine ev_br (p := 999 < x3) (a := 14) (b := 7) (st' := []) inferInstance rfl rfl (fun hb => ?_) (fun hb => ?_)
  · have hq := hq.1 hb
    refine ev_seq 2 (ip' := 16) (loc' := [some (.ref 46), some (.int x1), some (.int x2), some (.int 0), none, none]) (st' := []) (I1 := I) (T1 := T) rfl ?_
    exact s_M_worstAt_16 (T := T) hq
  · have hq := hq.2 hb
    refine ev_seq 4 (ip' := 11) (loc' := [some (.ref 46), some (.int x1), some (.int x2), some (.int x3), none, none]) (st' := [(.int 0), (.int x3), (.ref 534)]) (I1 := I) (T1 := T) rfl ?_
    obtain ⟨hg, hq⟩ := hq
    refine ev_iast rfl rfl hg ?_
    refine ev_seq 2 (ip' := 4) (loc' := [some (.ref 46), some (.int x1), some (.int x2), some (.int (x3 + 1)), none, none]) (st' := []) (I1 := m_up I 534 x3.toNatClampNeg 0) (T1 := T) rfl ?_
    exact hq
def t_M_worstAt_0 (E : MEnv) (I : II) (T : TT) (Q : QQ) (x1 : Int32) : Prop := t_M_worstAt_4 E I T Q x1 0 0
theorem s_M_worstAt_0 {E : MEnv} {I : II} {T : TT} {Q : QQ} {x1 : Int32} (hq : t_M_worstAt_0 E I T Q x1) : ev E 261 0 [some (.ref 46), some (.int x1), none, none, none, none] [] I T Q := by
  unfold t_M_worstAt_0 at hq
  refine ev_seq 4 (ip' := 4) (loc' := [some (.ref 46), some (.int x1), some (.int 0), some (.int 0), none, none]) (st' := []) (I1 := I) (T1 := T) rfl ?_
  exact s_M_worstAt_4 (T := T) hq
/-- FeltHarnessModel.would(IIIIIIII)I -/
def t_M_would_45 (E : MEnv) (I : II) (T : TT) (Q : QQ) (x1 : Int32) (x2 : Int32) (x3 : Int32) (x4 : Int32) (x5 : Int32) (x6 : Int32) (x7 : Int32) (x8 : Int32) (y1 : Int32) : Prop := ev E 58 0 [some (.ref 46), some (.int y1), some (.int 1), some (.int 1)] [] I T (KI (fun v1 I1 T1 => (v1 = 0 → (ev E 159 0 [some (.ref 46), some (.int x1), some (.int x2), some (.int x3), some (.int x4), some (.int x5), some (.int x6), some (.int x7), some (.int x8)] [] I1 T1 (KI (fun v2 I2 T2 => Q (.inl (some (.int v2))) I2 T2) (fun x I1 T1 => Q (.inr x) I1 T1)))) ∧ (¬ (v1 = 0) → (Q (.inl (some (.int 0))) I1 T1))) (fun x I1 T1 => Q (.inr x) I1 T1))
theorem s_M_would_45 {E : MEnv} {I : II} {T : TT} {Q : QQ} {x1 : Int32} {x2 : Int32} {x3 : Int32} {x4 : Int32} {x5 : Int32} {x6 : Int32} {x7 : Int32} {x8 : Int32} {y1 : Int32} (hq : t_M_would_45 E I T Q x1 x2 x3 x4 x5 x6 x7 x8 y1) : ev E 206 45 [some (.ref 46), some (.int x1), some (.int x2), some (.int x3), some (.int x4), some (.int x5), some (.int x6), some (.int x7), some (.int x8)] [(.int y1), (.ref 46)] I T Q := by
  unfold t_M_would_45 at hq
  refine ev_seq 2 (ip' := 47) (loc' := [some (.ref 46), some (.int x1), some (.int x2), some (.int x3), some (.int x4), some (.int x5), some (.int x6), some (.int x7), some (.int x8)]) (st' := [(.int 1), (.int 1), (.int y1), (.ref 46)]) (I1 := I) (T1 := T) rfl ?_
  refine ev_callI rfl rfl rfl (fun v1 I1 T1 hq => ?_) (fun x I1 T1 hq => ?_) hq
  · refine ev_br (p := v1 = 0) (a := 51) (b := 49) (st' := []) inferInstance rfl rfl (fun hb => ?_) (fun hb => ?_)
    · have hq := hq.1 hb
      refine ev_seq 9 (ip' := 60) (loc' := [some (.ref 46), some (.int x1), some (.int x2), some (.int x3), some (.int x4), some (.int x5), some (.int x6), some (.int x7), some (.int x8)]) (st' := [(.int x8), (.int x7), (.int x6), (.int x5), (.int x4), (.int x3), (.int x2), (.int x1), (.ref 46)]) (I1 := I1) (T1 := T1) rfl ?_
      refine ev_callI rfl rfl rfl (fun v2 I2 T2 hq => ?_) (fun x I1 T1 hq => ?_) hq
      · exact ev_ret rfl rfl hq
      · exact ⟨by decide, hq⟩
    · have hq := hq.2 hb
      refine ev_seq 1 (ip' := 50) (loc' := [some (.ref 46), some (.int x1), some (.int x2), some (.int x3), some (.int x4), some (.int x5), some (.int x6), some (.int x7), some (.int x8)]) (st' := [(.int 0)]) (I1 := I1) (T1 := T1) rfl ?_
      exact ev_ret rfl rfl hq
  · exact ⟨by decide, hq⟩
def t_M_would_42 (E : MEnv) (I : II) (T : TT) (Q : QQ) (x1 : Int32) (x2 : Int32) (x3 : Int32) (x4 : Int32) (x5 : Int32) (x6 : Int32) (x7 : Int32) (x8 : Int32) : Prop := t_M_would_45 E I T Q x1 x2 x3 x4 x5 x6 x7 x8 1
theorem s_M_would_42 {E : MEnv} {I : II} {T : TT} {Q : QQ} {x1 : Int32} {x2 : Int32} {x3 : Int32} {x4 : Int32} {x5 : Int32} {x6 : Int32} {x7 : Int32} {x8 : Int32} (hq : t_M_would_42 E I T Q x1 x2 x3 x4 x5 x6 x7 x8) : ev E 206 42 [some (.ref 46), some (.int x1), some (.int x2), some (.int x3), some (.int x4), some (.int x5), some (.int x6), some (.int x7), some (.int x8)] [(.ref 46)] I T Q := by
  unfold t_M_would_42 at hq
  refine ev_seq 2 (ip' := 45) (loc' := [some (.ref 46), some (.int x1), some (.int x2), some (.int x3), some (.int x4), some (.int x5), some (.int x6), some (.int x7), some (.int x8)]) (st' := [(.int 1), (.ref 46)]) (I1 := I) (T1 := T) rfl ?_
  exact s_M_would_45 (T := T) hq
def t_M_would_0 (E : MEnv) (I : II) (T : TT) (Q : QQ) (x1 : Int32) (x2 : Int32) (x3 : Int32) (x4 : Int32) (x5 : Int32) (x6 : Int32) (x7 : Int32) (x8 : Int32) : Prop := ev E 57 0 [some (.int x1), some (.int 1), some (.int 20)] [] (m_up I 46 0 0) T (KI (fun v1 I1 T1 => (v1 = 0 → (t_M_would_42 E I1 T1 Q x1 x2 x3 x4 x5 x6 x7 x8)) ∧ (¬ (v1 = 0) → (ev E 57 0 [some (.int x2), some (.int 0), some (.int 9)] [] I1 T1 (KI (fun v2 I2 T2 => (v2 = 0 → (t_M_would_42 E I2 T2 Q x1 x2 x3 x4 x5 x6 x7 x8)) ∧ (¬ (v2 = 0) → (ev E 57 0 [some (.int x3), some (.int 0), some (.int 9)] [] I2 T2 (KI (fun v3 I3 T3 => (v3 = 0 → (t_M_would_42 E I3 T3 Q x1 x2 x3 x4 x5 x6 x7 x8)) ∧ (¬ (v3 = 0) → (ev E 57 0 [some (.int x4), some (.int 0), some (.int 999)] [] I3 T3 (KI (fun v4 I4 T4 => (v4 = 0 → (t_M_would_42 E I4 T4 Q x1 x2 x3 x4 x5 x6 x7 x8)) ∧ (¬ (v4 = 0) → (ev E 200 0 [some (.int x5)] [] I4 T4 (KI (fun v5 I5 T5 => (v5 = 0 → (t_M_would_42 E I5 T5 Q x1 x2 x3 x4 x5 x6 x7 x8)) ∧ (¬ (v5 = 0) → (ev E 57 0 [some (.int x6), some (.int 0), some (.int 6)] [] I5 T5 (KI (fun v6 I6 T6 => (v6 = 0 → (t_M_would_42 E I6 T6 Q x1 x2 x3 x4 x5 x6 x7 x8)) ∧ (¬ (v6 = 0) → (ev E 57 0 [some (.int x7), some (.int 0), some (.int 4)] [] I6 T6 (KI (fun v7 I7 T7 => (v7 = 0 → (t_M_would_42 E I7 T7 Q x1 x2 x3 x4 x5 x6 x7 x8)) ∧ (¬ (v7 = 0) → (ev E 57 0 [some (.int x8), some (.int 0), some (.int 900)] [] I7 T7 (KI (fun v8 I8 T8 => (v8 = 0 → (t_M_would_42 E I8 T8 Q x1 x2 x3 x4 x5 x6 x7 x8)) ∧ (¬ (v8 = 0) → (t_M_would_45 E I8 T8 Q x1 x2 x3 x4 x5 x6 x7 x8 0))) (fun _ _ _ => False))))) (fun _ _ _ => False))))) (fun _ _ _ => False))))) (fun _ _ _ => False))))) (fun _ _ _ => False))))) (fun _ _ _ => False))))) (fun _ _ _ => False))))) (fun _ _ _ => False))
theorem s_M_would_0 {E : MEnv} {I : II} {T : TT} {Q : QQ} {x1 : Int32} {x2 : Int32} {x3 : Int32} {x4 : Int32} {x5 : Int32} {x6 : Int32} {x7 : Int32} {x8 : Int32} (hq : t_M_would_0 E I T Q x1 x2 x3 x4 x5 x6 x7 x8) : ev E 206 0 [some (.ref 46), some (.int x1), some (.int x2), some (.int x3), some (.int x4), some (.int x5), some (.int x6), some (.int x7), some (.int x8)] [] I T Q := by
  unfold t_M_would_0 at hq
  refine ev_seq 7 (ip' := 7) (loc' := [some (.ref 46), some (.int x1), some (.int x2), some (.int x3), some (.int x4), some (.int x5), some (.int x6), some (.int x7), some (.int x8)]) (st' := [(.int 20), (.int 1), (.int x1), (.ref 46)]) (I1 := m_up I 46 0 0) (T1 := T) rfl ?_
  refine ev_callI rfl rfl rfl (fun v1 I1 T1 hq => ?_) (fun x I1 T1 hq => ?_) hq
  · refine ev_br (p := v1 = 0) (a := 42) (b := 9) (st' := [(.ref 46)]) inferInstance rfl rfl (fun hb => ?_) (fun hb => ?_)
    · have hq := hq.1 hb
      exact s_M_would_42 (T := T1) hq
    · have hq := hq.2 hb
      refine ev_seq 3 (ip' := 12) (loc' := [some (.ref 46), some (.int x1), some (.int x2), some (.int x3), some (.int x4), some (.int x5), some (.int x6), some (.int x7), some (.int x8)]) (st' := [(.int 9), (.int 0), (.int x2), (.ref 46)]) (I1 := I1) (T1 := T1) rfl ?_
      refine ev_callI rfl rfl rfl (fun v2 I2 T2 hq => ?_) (fun x I1 T1 hq => ?_) hq
      · refine ev_br (p := v2 = 0) (a := 42) (b := 14) (st' := [(.ref 46)]) inferInstance rfl rfl (fun hb => ?_) (fun hb => ?_)
        · have hq := hq.1 hb
          exact s_M_would_42 (T := T2) hq
        · have hq := hq.2 hb
          refine ev_seq 3 (ip' := 17) (loc' := [some (.ref 46), some (.int x1), some (.int x2), some (.int x3), some (.int x4), some (.int x5), some (.int x6), some (.int x7), some (.int x8)]) (st' := [(.int 9), (.int 0), (.int x3), (.ref 46)]) (I1 := I2) (T1 := T2) rfl ?_
          refine ev_callI rfl rfl rfl (fun v3 I3 T3 hq => ?_) (fun x I1 T1 hq => ?_) hq
          · refine ev_br (p := v3 = 0) (a := 42) (b := 19) (st' := [(.ref 46)]) inferInstance rfl rfl (fun hb => ?_) (fun hb => ?_)
            · have hq := hq.1 hb
              exact s_M_would_42 (T := T3) hq
            · have hq := hq.2 hb
              refine ev_seq 3 (ip' := 22) (loc' := [some (.ref 46), some (.int x1), some (.int x2), some (.int x3), some (.int x4), some (.int x5), some (.int x6), some (.int x7), some (.int x8)]) (st' := [(.int 999), (.int 0), (.int x4), (.ref 46)]) (I1 := I3) (T1 := T3) rfl ?_
              refine ev_callI rfl rfl rfl (fun v4 I4 T4 hq => ?_) (fun x I1 T1 hq => ?_) hq
              · refine ev_br (p := v4 = 0) (a := 42) (b := 24) (st' := [(.ref 46)]) inferInstance rfl rfl (fun hb => ?_) (fun hb => ?_)
                · have hq := hq.1 hb
                  exact s_M_would_42 (T := T4) hq
                · have hq := hq.2 hb
                  refine ev_seq 1 (ip' := 25) (loc' := [some (.ref 46), some (.int x1), some (.int x2), some (.int x3), some (.int x4), some (.int x5), some (.int x6), some (.int x7), some (.int x8)]) (st' := [(.int x5), (.ref 46)]) (I1 := I4) (T1 := T4) rfl ?_
                  refine ev_callI rfl rfl rfl (fun v5 I5 T5 hq => ?_) (fun x I1 T1 hq => ?_) hq
                  · refine ev_br (p := v5 = 0) (a := 42) (b := 27) (st' := [(.ref 46)]) inferInstance rfl rfl (fun hb => ?_) (fun hb => ?_)
                    · have hq := hq.1 hb
                      exact s_M_would_42 (T := T5) hq
                    · have hq := hq.2 hb
                      refine ev_seq 3 (ip' := 30) (loc' := [some (.ref 46), some (.int x1), some (.int x2), some (.int x3), some (.int x4), some (.int x5), some (.int x6), some (.int x7), some (.int x8)]) (st' := [(.int 6), (.int 0), (.int x6), (.ref 46)]) (I1 := I5) (T1 := T5) rfl ?_
                      refine ev_callI rfl rfl rfl (fun v6 I6 T6 hq => ?_) (fun x I1 T1 hq => ?_) hq
                      · refine ev_br (p := v6 = 0) (a := 42) (b := 32) (st' := [(.ref 46)]) inferInstance rfl rfl (fun hb => ?_) (fun hb => ?_)
                        · have hq := hq.1 hb
                          exact s_M_would_42 (T := T6) hq
                        · have hq := hq.2 hb
                          refine ev_seq 3 (ip' := 35) (loc' := [some (.ref 46), some (.int x1), some (.int x2), some (.int x3), some (.int x4), some (.int x5), some (.int x6), some (.int x7), some (.int x8)]) (st' := [(.int 4), (.int 0), (.int x7), (.ref 46)]) (I1 := I6) (T1 := T6) rfl ?_
                          refine ev_callI rfl rfl rfl (fun v7 I7 T7 hq => ?_) (fun x I1 T1 hq => ?_) hq
                          · refine ev_br (p := v7 = 0) (a := 42) (b := 37) (st' := [(.ref 46)]) inferInstance rfl rfl (fun hb => ?_) (fun hb => ?_)
                            · have hq := hq.1 hb
                              exact s_M_would_42 (T := T7) hq
                            · have hq := hq.2 hb
                              refine ev_seq 3 (ip' := 40) (loc' := [some (.ref 46), some (.int x1), some (.int x2), some (.int x3), some (.int x4), some (.int x5), some (.int x6), some (.int x7), some (.int x8)]) (st' := [(.int 900), (.int 0), (.int x8), (.ref 46)]) (I1 := I7) (T1 := T7) rfl ?_
                              refine ev_callI rfl rfl rfl (fun v8 I8 T8 hq => ?_) (fun x I1 T1 hq => ?_) hq
                              · refine ev_br (p := v8 = 0) (a := 42) (b := 44) (st' := [(.ref 46)]) inferInstance rfl rfl (fun hb => ?_) (fun hb => ?_)
                                · have hq := hq.1 hb
                                  exact s_M_would_42 (T := T8) hq
                                · have hq := hq.2 hb
                                  refine ev_seq 1 (ip' := 45) (loc' := [some (.ref 46), some (.int x1), some (.int x2), some (.int x3), some (.int x4), some (.int x5), some (.int x6), some (.int x7), some (.int x8)]) (st' := [(.int 0), (.ref 46)]) (I1 := I8) (T1 := T8) rfl ?_
                                  exact s_M_would_45 (T := T8) hq
                              · exact hq.elim
                          · exact hq.elim
                      · exact hq.elim
                  · exact hq.elim
              · exact hq.elim
          · exact hq.elim
      · exact hq.elim
  · exact hq.elim
/-- FeltHarnessModel.wrong(II)V -/
def t_M_wrong_9 (E : MEnv) (I : II) (T : TT) (Q : QQ) : Prop := Q (.inl none) I T
theorem s_M_wrong_9 {E : MEnv} {I : II} {T : TT} {Q : QQ} (hq : t_M_wrong_9 E I T Q) : ev E 69 9 [none, none, none] [] I T Q := by
  unfold t_M_wrong_9 at hq
  exact ev_ret rfl rfl hq
def t_M_wrong_0 (E : MEnv) (I : II) (T : TT) (Q : QQ) (x1 : Int32) (x2 : Int32) : Prop := ((I 46 5) = 0 → (t_M_wrong_9 E (m_up (m_up I 46 5 x1) 46 6 x2) T Q )) ∧ (¬ ((I 46 5) = 0) → (t_M_wrong_9 E I T Q ))
theorem s_M_wrong_0 {E : MEnv} {I : II} {T : TT} {Q : QQ} {x1 : Int32} {x2 : Int32} (hq : t_M_wrong_0 E I T Q x1 x2) : ev E 69 0 [some (.ref 46), some (.int x1), some (.int x2)] [] I T Q := by
  unfold t_M_wrong_0 at hq
  refine ev_seq 2 (ip' := 2) (loc' := [some (.ref 46), some (.int x1), some (.int x2)]) (st' := [(.int (I 46 5))]) (I1 := I) (T1 := T) rfl ?_
  refine ev_br (p := (I 46 5) = 0) (a := 3) (b := 9) (st' := []) inferInstance rfl rfl (fun hb => ?_) (fun hb => ?_)
  · have hq := hq.1 hb
    refine ev_seq 6 (ip' := 9) (loc' := [some (.ref 46), some (.int x1), some (.int x2)]) (st' := []) (I1 := m_up (m_up I 46 5 x1) 46 6 x2) (T1 := T) rfl ?_
    refine ev_fg [false, false, false] (loc' := [none, none, none]) rfl ?_
    exact s_M_wrong_9 (T := T) hq
  · have hq := hq.2 hb
    refine ev_fg [false, false, false] (loc' := [none, none, none]) rfl ?_
    exact s_M_wrong_9 (T := T) hq
/-- FeltHarness$Plan.prepare()V -/
def t_Plan_prepare_0 (E : MEnv) (I : II) (T : TT) (Q : QQ) : Prop := Q (.inl none) (m_up (m_up (m_up I 23 6 0) 23 7 0) 23 8 0) T
theorem s_Plan_prepare_0 {E : MEnv} {I : II} {T : TT} {Q : QQ} (hq : t_Plan_prepare_0 E I T Q) : ev E 101 0 [some (.ref 23)] [] I T Q := by
  unfold t_Plan_prepare_0 at hq
  refine ev_seq 9 (ip' := 9) (loc' := [some (.ref 23)]) (st' := []) (I1 := m_up (m_up (m_up I 23 6 0) 23 7 0) 23 8 0) (T1 := T) rfl ?_
  exact ev_ret rfl rfl hq
/-- FeltHarness$Plan.read(LFeltHarness$Text;I)V -/
def t_Plan_read_0 (E : MEnv) (I : II) (T : TT) (Q : QQ) (x2 : Int32) : Prop := ev E 97 0 [some (.ref 23), some (.ref 1), some (.int 0), none, none] [] (m_up (m_up I 23 4 x2) 23 5 0) T (KV (fun I1 T1 => Q (.inl none) I1 T1) (fun x I1 T1 => Q (.inr x) I1 T1))
theorem s_Plan_read_0 {E : MEnv} {I : II} {T : TT} {Q : QQ} {x2 : Int32} (hq : t_Plan_read_0 E I T Q x2) : ev E 96 0 [some (.ref 23), some (.ref 1), some (.int x2)] [] I T Q := by
  unfold t_Plan_read_0 at hq
  refine ev_seq 9 (ip' := 9) (loc' := [some (.ref 23), some (.ref 1), some (.int x2)]) (st' := [(.int 0), (.ref 1), (.ref 23)]) (I1 := m_up (m_up I 23 4 x2) 23 5 0) (T1 := T) rfl ?_
  refine ev_callV rfl rfl rfl (fun I1 T1 hq => ?_) (fun x I1 T1 hq => ?_) hq
  · exact ev_ret rfl rfl hq
  · exact ⟨by decide, hq⟩
/-- FeltHarness$Plan.readStep(LFeltHarness$Text;I)V -/
def t_Plan_readStep_22 (d9 : Nat) (X9 : Nat × (Nat → Int32)) (I : II) (T : TT) (Q : QQ) : Prop := Q (.inl none) I T
theorem s_Plan_readStep_22 {d9 : Nat} {X9 : Nat × (Nat → Int32)} {I : II} {T : TT} {Q : QQ} (hq : t_Plan_readStep_22 d9 X9 I T Q) : ev (d9 + 1, X9) 98 22 [none, none, none, none, none] [] I T Q := by
  unfold t_Plan_readStep_22 at hq
  exact ev_ret rfl rfl hq
def t_Plan_readStep_103 (d9 : Nat) (X9 : Nat × (Nat → Int32)) (I : II) (T : TT) (Q : QQ) (x4 : Int32) : Prop := (¬ x4 < 0 ∧ x4.toNatClampNeg < 30) ∧ (Q (.inl none) (m_up I 27 x4.toNatClampNeg (I 23 5)) T)
theorem s_Plan_readStep_103 {d9 : Nat} {X9 : Nat × (Nat → Int32)} {I : II} {T : TT} {Q : QQ} {x4 : Int32} (hq : t_Plan_readStep_103 d9 X9 I T Q x4) : ev (d9 + 1, X9) 98 103 [some (.ref 23), none, none, none, some (.int x4)] [] I T Q := by
  unfold t_Plan_readStep_103 at hq
  refine ev_seq 5 (ip' := 108) (loc' := [some (.ref 23), none, none, none, some (.int x4)]) (st' := [(.int (I 23 5)), (.int x4), (.ref 27)]) (I1 := I) (T1 := T) rfl ?_
  obtain ⟨hg, hq⟩ := hq
  refine ev_iast rfl rfl hg ?_
  exact ev_ret rfl rfl hq
def t_Plan_readStep_101 (d9 : Nat) (X9 : Nat × (Nat → Int32)) (I : II) (T : TT) (Q : QQ) (x4 : Int32) (y1 : Int32) (y3 : Int32) (y4 : Int32) : Prop := ev (d9 + 1, X9) 47 0 [some (.ref 1), some (.int y3), some (.int y4), none, none] [] I T (KI (fun v1 I1 T1 => (¬ y1 < 0 ∧ y1.toNatClampNeg < 30) ∧ (t_Plan_readStep_103 d9 X9 (m_up I1 26 y1.toNatClampNeg v1) T1 Q x4)) (fun x I1 T1 => Q (.inr x) I1 T1))
theorem s_Plan_readStep_101 {d9 : Nat} {X9 : Nat × (Nat → Int32)} {I : II} {T : TT} {Q : QQ} {x4 : Int32} {y1 : Int32} {y3 : Int32} {y4 : Int32} (hq : t_Plan_readStep_101 d9 X9 I T Q x4 y1 y3 y4) : ev (d9 + 1, X9) 98 101 [some (.ref 23), none, none, none, some (.int x4)] [(.int y4), (.int y3), (.ref 1), (.int y1), (.ref 26)] I T Q := by
  unfold t_Plan_readStep_101 at hq
  refine ev_callI rfl rfl rfl (fun v1 I1 T1 hq => ?_) (fun x I1 T1 hq => ?_) hq
  · obtain ⟨hg, hq⟩ := hq
    refine ev_iast rfl rfl hg ?_
    exact s_Plan_readStep_103 (T := T1) hq
  · exact ⟨by decide, hq⟩
def t_Plan_readStep_15 (d9 : Nat) (X9 : Nat × (Nat → Int32)) (I : II) (T : TT) (Q : QQ) (x2 : Int32) (x3 : Int32) : Prop := ev (d9 + 1, X9) 31 0 [some (.ref 1)] [] I T (KI (fun v1 I1 T1 => (v1 = 0 → (t_Plan_readStep_22 d9 X9 I1 T1 Q )) ∧ (¬ (v1 = 0) → (((I1 23 5) < 30 → ((¬ (I1 23 5) < 0 ∧ (I1 23 5).toNatClampNeg < 30) ∧ ((¬ (I1 23 5) < 0 ∧ (I1 23 5).toNatClampNeg < 30) ∧ ((¬ (I1 23 5) < 0 ∧ (I1 23 5).toNatClampNeg < 30) ∧ ((x3 = 6 → (ev (d9 + 1, X9) 47 0 [some (.ref 1), some (.int 0), some (.int 60), none, none] [] (m_up (m_up (m_up (m_up I1 23 5 ((I1 23 5) + 1)) 24 (I1 23 5).toNatClampNeg x3) 25 (I1 23 5).toNatClampNeg 0) 26 (I1 23 5).toNatClampNeg 0) T1 (KI (fun v2 I2 T2 => (¬ (I1 23 5) < 0 ∧ (I1 23 5).toNatClampNeg < 30) ∧ (ev (d9 + 1, X9) 51 0 [some (.ref 1), some (.int 91)] [] (m_up I2 25 (I1 23 5).toNatClampNeg v2) T2 (KV (fun I3 T3 => ev (d9, X9) 97 0 [some (.ref 23), some (.ref 1), some (.int (x2 + 1)), none, none] [] I3 T3 (KV (fun I4 T4 => ev (d9 + 1, X9) 51 0 [some (.ref 1), some (.int 93)] [] I4 T4 (KV (fun I5 T5 => t_Plan_readStep_103 d9 X9 I5 T5 Q (I1 23 5)) (fun x I1 T1 => Q (.inr x) I1 T1))) (fun x I1 T1 => Q (.inr x) I1 T1))) (fun x I1 T1 => Q (.inr x) I1 T1)))) (fun x I1 T1 => Q (.inr x) I1 T1)))) ∧ (¬ (x3 = 6) → ((2 < x3 → (t_Plan_readStep_103 d9 X9 (m_up (m_up (m_up (m_up I1 23 5 ((I1 23 5) + 1)) 24 (I1 23 5).toNatClampNeg x3) 25 (I1 23 5).toNatClampNeg 0) 26 (I1 23 5).toNatClampNeg 0) T1 Q (I1 23 5))) ∧ (¬ (2 < x3) → (ev (d9 + 1, X9) 47 0 [some (.ref 1), some (.int 0), some (.int (((m_up (m_up (m_up (m_up I1 23 5 ((I1 23 5) + 1)) 24 (I1 23 5).toNatClampNeg x3) 25 (I1 23 5).toNatClampNeg 0) 26 (I1 23 5).toNatClampNeg 0) 23 4) - 1)), none, none] [] (m_up (m_up (m_up (m_up I1 23 5 ((I1 23 5) + 1)) 24 (I1 23 5).toNatClampNeg x3) 25 (I1 23 5).toNatClampNeg 0) 26 (I1 23 5).toNatClampNeg 0) T1 (KI (fun v6 I6 T6 => (¬ (I1 23 5) < 0 ∧ (I1 23 5).toNatClampNeg < 30) ∧ ((x3 = 1 → (t_Plan_readStep_103 d9 X9 (m_up I6 25 (I1 23 5).toNatClampNeg v6) T6 Q (I1 23 5))) ∧ (¬ (x3 = 1) → (ev (d9 + 1, X9) 31 0 [some (.ref 1)] [] (m_up I6 25 (I1 23 5).toNatClampNeg v6) T6 (KI (fun v7 I7 T7 => (v7 = 0 → (t_Plan_readStep_103 d9 X9 I7 T7 Q (I1 23 5))) ∧ (¬ (v7 = 0) → ((x3 = 0 → (t_Plan_readStep_101 d9 X9 I7 T7 Q (I1 23 5) (I1 23 5) 0 3)) ∧ (¬ (x3 = 0) → (t_Plan_readStep_101 d9 X9 I7 T7 Q (I1 23 5) (I1 23 5) 0 9))))) (fun x I1 T1 => Q (.inr x) I1 T1)))))) (fun x I1 T1 => Q (.inr x) I1 T1))))))))))) ∧ (¬ ((I1 23 5) < 30) → (t_Plan_readStep_22 d9 X9 I1 T1 Q ))))) (fun x I1 T1 => Q (.inr x) I1 T1))
theorem s_Plan_readStep_15 {d9 : Nat} {X9 : Nat × (Nat → Int32)} {I : II} {T : TT} {Q : QQ} {x2 : Int32} {x3 : Int32} (hq : t_Plan_readStep_15 d9 X9 I T Q x2 x3) : ev (d9 + 1, X9) 98 15 [some (.ref 23), some (.ref 1), some (.int x2), some (.int x3), none] [] I T Q := by
  unfold t_Plan_readStep_15 at hq
  refine ev_seq 1 (ip' := 16) (loc' := [some (.ref 23), some (.ref 1), some (.int x2), some (.int x3), none]) (st' := [(.ref 1)]) (I1 := I) (T1 := T) rfl ?_
  refine ev_callI rfl rfl rfl (fun v1 I1 T1 hq => ?_) (fun x I1 T1 hq => ?_) hq
  · refine ev_br (p := v1 = 0) (a := 22) (b := 18) (st' := []) inferInstance rfl rfl (fun hb => ?_) (fun hb => ?_)
    · have hq := hq.1 hb
      refine ev_fg [false, false, false, false, true] (loc' := [none, none, none, none, none]) rfl ?_
      exact s_Plan_readStep_22 (T := T1) hq
    · have hq := hq.2 hb
      refine ev_seq 3 (ip' := 21) (loc' := [some (.ref 23), some (.ref 1), some (.int x2), some (.int x3), none]) (st' := [(.int 30), (.int (I1 23 5))]) (I1 := I1) (T1 := T1) rfl ?_
      refine ev_br (p := (I1 23 5) < 30) (a := 23) (b := 22) (st' := []) inferInstance rfl rfl (fun hb => ?_) (fun hb => ?_)
      · have hq := hq.1 hb
        refine ev_seq 13 (ip' := 36) (loc' := [some (.ref 23), some (.ref 1), some (.int x2), some (.int x3), some (.int (I1 23 5))]) (st' := [(.int x3), (.int (I1 23 5)), (.ref 24)]) (I1 := m_up I1 23 5 ((I1 23 5) + 1)) (T1 := T1) rfl ?_
        obtain ⟨hg, hq⟩ := hq
        refine ev_iast rfl rfl hg ?_
        refine ev_seq 4 (ip' := 41) (loc' := [some (.ref 23), some (.ref 1), some (.int x2), some (.int x3), some (.int (I1 23 5))]) (st' := [(.int 0), (.int (I1 23 5)), (.ref 25)]) (I1 := m_up (m_up I1 23 5 ((I1 23 5) + 1)) 24 (I1 23 5).toNatClampNeg x3) (T1 := T1) rfl ?_
        obtain ⟨hg, hq⟩ := hq
        refine ev_iast rfl rfl hg ?_
        refine ev_seq 4 (ip' := 46) (loc' := [some (.ref 23), some (.ref 1), some (.int x2), some (.int x3), some (.int (I1 23 5))]) (st' := [(.int 0), (.int (I1 23 5)), (.ref 26)]) (I1 := m_up (m_up (m_up I1 23 5 ((I1 23 5) + 1)) 24 (I1 23 5).toNatClampNeg x3) 25 (I1 23 5).toNatClampNeg 0) (T1 := T1) rfl ?_
        obtain ⟨hg, hq⟩ := hq
        refine ev_iast rfl rfl hg ?_
        refine ev_seq 2 (ip' := 49) (loc' := [some (.ref 23), some (.ref 1), some (.int x2), some (.int x3), some (.int (I1 23 5))]) (st' := [(.int 6), (.int x3)]) (I1 := m_up (m_up (m_up (m_up I1 23 5 ((I1 23 5) + 1)) 24 (I1 23 5).toNatClampNeg x3) 25 (I1 23 5).toNatClampNeg 0) 26 (I1 23 5).toNatClampNeg 0) (T1 := T1) rfl ?_
        refine ev_br (p := x3 = 6) (a := 50) (b := 71) (st' := []) inferInstance rfl rfl (fun hb => ?_) (fun hb => ?_)
        · have hq := hq.1 hb
          refine ev_seq 6 (ip' := 56) (loc' := [some (.ref 23), some (.ref 1), some (.int x2), some (.int x3), some (.int (I1 23 5))]) (st' := [(.int 60), (.int 0), (.ref 1), (.int (I1 23 5)), (.ref 25)]) (I1 := m_up (m_up (m_up (m_up I1 23 5 ((I1 23 5) + 1)) 24 (I1 23 5).toNatClampNeg x3) 25 (I1 23 5).toNatClampNeg 0) 26 (I1 23 5).toNatClampNeg 0) (T1 := T1) rfl ?_
          refine ev_callI rfl rfl rfl (fun v2 I2 T2 hq => ?_) (fun x I1 T1 hq => ?_) hq
          · obtain ⟨hg, hq⟩ := hq
            refine ev_iast rfl rfl hg ?_
            refine ev_seq 2 (ip' := 60) (loc' := [some (.ref 23), some (.ref 1), some (.int x2), some (.int x3), some (.int (I1 23 5))]) (st' := [(.int 91), (.ref 1)]) (I1 := m_up I2 25 (I1 23 5).toNatClampNeg v2) (T1 := T2) rfl ?_
            refine ev_callV rfl rfl rfl (fun I3 T3 hq => ?_) (fun x I1 T1 hq => ?_) hq
            · refine ev_seq 5 (ip' := 66) (loc' := [some (.ref 23), some (.ref 1), some (.int x2), some (.int x3), some (.int (I1 23 5))]) (st' := [(.int (x2 + 1)), (.ref 1), (.ref 23)]) (I1 := I3) (T1 := T3) rfl ?_
              refine ev_callV rfl rfl rfl (fun I4 T4 hq => ?_) (fun x I1 T1 hq => ?_) hq
              · refine ev_seq 2 (ip' := 69) (loc' := [some (.ref 23), some (.ref 1), some (.int x2), some (.int x3), some (.int (I1 23 5))]) (st' := [(.int 93), (.ref 1)]) (I1 := I4) (T1 := T4) rfl ?_
                refine ev_callV rfl rfl rfl (fun I5 T5 hq => ?_) (fun x I1 T1 hq => ?_) hq
                · refine ev_seq 1 (ip' := 103) (loc' := [some (.ref 23), some (.ref 1), some (.int x2), some (.int x3), some (.int (I1 23 5))]) (st' := []) (I1 := I5) (T1 := T5) rfl ?_
                  refine ev_fg [true, false, false, false, true] (loc' := [some (.ref 23), none, none, none, some (.int (I1 23 5))]) rfl ?_
                  exact s_Plan_readStep_103 (T := T5) hq
                · exact ⟨by decide, hq⟩
              · exact ⟨by decide, hq⟩
            · exact ⟨by decide, hq⟩
          · exact ⟨by decide, hq⟩
        · have hq := hq.2 hb
          refine ev_seq 2 (ip' := 73) (loc' := [some (.ref 23), some (.ref 1), some (.int x2), some (.int x3), some (.int (I1 23 5))]) (st' := [(.int 2), (.int x3)]) (I1 := m_up (m_up (m_up (m_up I1 23 5 ((I1 23 5) + 1)) 24 (I1 23 5).toNatClampNeg x3) 25 (I1 23 5).toNatClampNeg 0) 26 (I1 23 5).toNatClampNeg 0) (T1 := T1) rfl ?_
          refine ev_br (p := 2 < x3) (a := 103) (b := 74) (st' := []) inferInstance rfl rfl (fun hb => ?_) (fun hb => ?_)
          · have hq := hq.1 hb
            refine ev_fg [true, false, false, false, true] (loc' := [some (.ref 23), none, none, none, some (.int (I1 23 5))]) rfl ?_
            exact s_Plan_readStep_103 (T := T1) hq
          · have hq := hq.2 hb
            refine ev_seq 9 (ip' := 83) (loc' := [some (.ref 23), some (.ref 1), some (.int x2), some (.int x3), some (.int (I1 23 5))]) (st' := [(.int (((m_up (m_up (m_up (m_up I1 23 5 ((I1 23 5) + 1)) 24 (I1 23 5).toNatClampNeg x3) 25 (I1 23 5).toNatClampNeg 0) 26 (I1 23 5).toNatClampNeg 0) 23 4) - 1)), (.int 0), (.ref 1), (.int (I1 23 5)), (.ref 25)]) (I1 := m_up (m_up (m_up (m_up I1 23 5 ((I1 23 5) + 1)) 24 (I1 23 5).toNatClampNeg x3) 25 (I1 23 5).toNatClampNeg 0) 26 (I1 23 5).toNatClampNeg 0) (T1 := T1) rfl ?_
            refine ev_callI rfl rfl rfl (fun v6 I6 T6 hq => ?_) (fun x I1 T1 hq => ?_) hq
            · obtain ⟨hg, hq⟩ := hq
              refine ev_iast rfl rfl hg ?_
              refine ev_seq 2 (ip' := 87) (loc' := [some (.ref 23), some (.ref 1), some (.int x2), some (.int x3), some (.int (I1 23 5))]) (st' := [(.int 1), (.int x3)]) (I1 := m_up I6 25 (I1 23 5).toNatClampNeg v6) (T1 := T6) rfl ?_
              refine ev_br (p := x3 = 1) (a := 103) (b := 88) (st' := []) inferInstance rfl rfl (fun hb => ?_) (fun hb => ?_)
              · have hq := hq.1 hb
                refine ev_fg [true, false, false, false, true] (loc' := [some (.ref 23), none, none, none, some (.int (I1 23 5))]) rfl ?_
                exact s_Plan_readStep_103 (T := T6) hq
              · have hq := hq.2 hb
                refine ev_seq 1 (ip' := 89) (loc' := [some (.ref 23), some (.ref 1), some (.int x2), some (.int x3), some (.int (I1 23 5))]) (st' := [(.ref 1)]) (I1 := m_up I6 25 (I1 23 5).toNatClampNeg v6) (T1 := T6) rfl ?_
                refine ev_callI rfl rfl rfl (fun v7 I7 T7 hq => ?_) (fun x I1 T1 hq => ?_) hq
                · refine ev_br (p := v7 = 0) (a := 103) (b := 91) (st' := []) inferInstance rfl rfl (fun hb => ?_) (fun hb => ?_)
                  · have hq := hq.1 hb
                    refine ev_fg [true, false, false, false, true] (loc' := [some (.ref 23), none, none, none, some (.int (I1 23 5))]) rfl ?_
                    exact s_Plan_readStep_103 (T := T7) hq
                  · have hq := hq.2 hb
                    refine ev_seq 6 (ip' := 97) (loc' := [some (.ref 23), some (.ref 1), some (.int x2), some (.int x3), some (.int (I1 23 5))]) (st' := [(.int x3), (.int 0), (.ref 1), (.int (I1 23 5)), (.ref 26)]) (I1 := I7) (T1 := T7) rfl ?_
                    refine ev_br (p := x3 = 0) (a := 98) (b := 100) (st' := [(.int 0), (.ref 1), (.int (I1 23 5)), (.ref 26)]) inferInstance rfl rfl (fun hb => ?_) (fun hb => ?_)
                    · have hq := hq.1 hb
                      refine ev_seq 2 (ip' := 101) (loc' := [some (.ref 23), some (.ref 1), some (.int x2), some (.int x3), some (.int (I1 23 5))]) (st' := [(.int 3), (.int 0), (.ref 1), (.int (I1 23 5)), (.ref 26)]) (I1 := I7) (T1 := T7) rfl ?_
                      refine ev_fg [true, false, false, false, true] (loc' := [some (.ref 23), none, none, none, some (.int (I1 23 5))]) rfl ?_
                      exact s_Plan_readStep_101 (T := T7) hq
                    · have hq := hq.2 hb
                      refine ev_seq 1 (ip' := 101) (loc' := [some (.ref 23), some (.ref 1), some (.int x2), some (.int x3), some (.int (I1 23 5))]) (st' := [(.int 9), (.int 0), (.ref 1), (.int (I1 23 5)), (.ref 26)]) (I1 := I7) (T1 := T7) rfl ?_
                      refine ev_fg [true, false, false, false, true] (loc' := [some (.ref 23), none, none, none, some (.int (I1 23 5))]) rfl ?_
                      exact s_Plan_readStep_101 (T := T7) hq
                · exact ⟨by decide, hq⟩
            · exact ⟨by decide, hq⟩
      · have hq := hq.2 hb
        refine ev_fg [false, false, false, false, true] (loc' := [none, none, none, none, none]) rfl ?_
        exact s_Plan_readStep_22 (T := T1) hq
  · exact ⟨by decide, hq⟩
def t_Plan_readStep_0 (d9 : Nat) (X9 : Nat × (Nat → Int32)) (I : II) (T : TT) (Q : QQ) (x2 : Int32) : Prop := ev (d9 + 1, X9) 34 0 [some (.ref 1), some (.ref 1000005), none, none, none] [] I T (KI (fun v1 I1 T1 => (v1 = 6 → ((x2 < 6 → (t_Plan_readStep_15 d9 X9 I1 T1 Q x2 v1)) ∧ (¬ (x2 < 6) → (ev (d9 + 1, X9) 45 0 [some (.ref 1), some (.int 3), some (.int (I1 1 4))] [] I1 T1 (KV (fun I2 T2 => t_Plan_readStep_15 d9 X9 I2 T2 Q x2 v1) (fun x I1 T1 => Q (.inr x) I1 T1)))))) ∧ (¬ (v1 = 6) → (t_Plan_readStep_15 d9 X9 I1 T1 Q x2 v1))) (fun x I1 T1 => Q (.inr x) I1 T1))
theorem s_Plan_readStep_0 {d9 : Nat} {X9 : Nat × (Nat → Int32)} {I : II} {T : TT} {Q : QQ} {x2 : Int32} (hq : t_Plan_readStep_0 d9 X9 I T Q x2) : ev (d9 + 1, X9) 98 0 [some (.ref 23), some (.ref 1), some (.int x2), none, none] [] I T Q := by
  unfold t_Plan_readStep_0 at hq
  refine ev_seq 2 (ip' := 2) (loc' := [some (.ref 23), some (.ref 1), some (.int x2), none, none]) (st' := [(.ref 1000005), (.ref 1)]) (I1 := I) (T1 := T) rfl ?_
  refine ev_callI rfl rfl rfl (fun v1 I1 T1 hq => ?_) (fun x I1 T1 hq => ?_) hq
  · refine ev_seq 3 (ip' := 6) (loc' := [some (.ref 23), some (.ref 1), some (.int x2), some (.int v1), none]) (st' := [(.int 6), (.int v1)]) (I1 := I1) (T1 := T1) rfl ?_
    refine ev_br (p := v1 = 6) (a := 7) (b := 15) (st' := []) inferInstance rfl rfl (fun hb => ?_) (fun hb => ?_)
    · have hq := hq.1 hb
      refine ev_seq 2 (ip' := 9) (loc' := [some (.ref 23), some (.ref 1), some (.int x2), some (.int v1), none]) (st' := [(.int 6), (.int x2)]) (I1 := I1) (T1 := T1) rfl ?_
      refine ev_br (p := x2 < 6) (a := 15) (b := 10) (st' := []) inferInstance rfl rfl (fun hb => ?_) (fun hb => ?_)
      · have hq := hq.1 hb
        exact s_Plan_readStep_15 (T := T1) hq
      · have hq := hq.2 hb
        refine ev_seq 4 (ip' := 14) (loc' := [some (.ref 23), some (.ref 1), some (.int x2), some (.int v1), none]) (st' := [(.int (I1 1 4)), (.int 3), (.ref 1)]) (I1 := I1) (T1 := T1) rfl ?_
        refine ev_callV rfl rfl rfl (fun I2 T2 hq => ?_) (fun x I1 T1 hq => ?_) hq
        · exact s_Plan_readStep_15 (T := T2) hq
        · exact ⟨by decide, hq⟩
    · have hq := hq.2 hb
      exact s_Plan_readStep_15 (T := T1) hq
  · exact ⟨by decide, hq⟩
/-- FeltHarness$Plan.readSteps(LFeltHarness$Text;I)V -/
def t_Plan_readSteps_31 (E : MEnv) (I : II) (T : TT) (Q : QQ) : Prop := Q (.inl none) I T
theorem s_Plan_readSteps_31 {E : MEnv} {I : II} {T : TT} {Q : QQ} (hq : t_Plan_readSteps_31 E I T Q) : ev E 97 31 [none, none, none, none, none] [] I T Q := by
  unfold t_Plan_readSteps_31 at hq
  exact ev_ret rfl rfl hq
def t_Plan_readSteps_21 (E : MEnv) (I : II) (T : TT) (Q : QQ) : Prop := Q (.inl none) I T
theorem s_Plan_readSteps_21 {E : MEnv} {I : II} {T : TT} {Q : QQ} (hq : t_Plan_readSteps_21 E I T Q) : ev E 97 21 [none, none, none, none, none] [] I T Q := by
  unfold t_Plan_readSteps_21 at hq
  exact ev_ret rfl rfl hq
def t_Plan_readSteps_22 (E : MEnv) (I : II) (T : TT) (Q : QQ) (x2 : Int32) (x3 : Int32) : Prop := ev E 98 0 [some (.ref 23), some (.ref 1), some (.int x2), none, none] [] I T (KV (fun I1 T1 => ev E 51 0 [some (.ref 1), some (.int 59)] [] I1 T1 (KV (fun I2 T2 => ev E 97 2 [some (.ref 23), some (.ref 1), some (.int x2), some (.int (x3 + 1)), none] [] I2 T2 Q) (fun x I1 T1 => Q (.inr x) I1 T1))) (fun x I1 T1 => Q (.inr x) I1 T1))
theorem s_Plan_readSteps_22 {E : MEnv} {I : II} {T : TT} {Q : QQ} {x2 : Int32} {x3 : Int32} (hq : t_Plan_readSteps_22 E I T Q x2 x3) : ev E 97 22 [some (.ref 23), some (.ref 1), some (.int x2), some (.int x3), none] [] I T Q := by
  unfold t_Plan_readSteps_22 at hq
  refine ev_seq 3 (ip' := 25) (loc' := [some (.ref 23), some (.ref 1), some (.int x2), some (.int x3), none]) (st' := [(.int x2), (.ref 1), (.ref 23)]) (I1 := I) (T1 := T) rfl ?_
  refine ev_callV rfl rfl rfl (fun I1 T1 hq => ?_) (fun x I1 T1 hq => ?_) hq
  · refine ev_seq 2 (ip' := 28) (loc' := [some (.ref 23), some (.ref 1), some (.int x2), some (.int x3), none]) (st' := [(.int 59), (.ref 1)]) (I1 := I1) (T1 := T1) rfl ?_
    refine ev_callV rfl rfl rfl (fun I2 T2 hq => ?_) (fun x I1 T1 hq => ?_) hq
    · refine ev_seq 2 (ip' := 2) (loc' := [some (.ref 23), some (.ref 1), some (.int x2), some (.int (x3 + 1)), none]) (st' := []) (I1 := I2) (T1 := T2) rfl ?_
      exact hq
    · exact ⟨by decide, hq⟩
  · exact ⟨by decide, hq⟩
def t_Plan_readSteps_16 (E : MEnv) (I : II) (T : TT) (Q : QQ) (x2 : Int32) (x3 : Int32) (x4 : Int32) : Prop := (x2 ≤ 0 → (t_Plan_readSteps_22 E I T Q x2 x3)) ∧ (¬ (x2 ≤ 0) → ((x4 = 93 → (t_Plan_readSteps_21 E I T Q )) ∧ (¬ (x4 = 93) → (t_Plan_readSteps_22 E I T Q x2 x3))))
theorem s_Plan_readSteps_16 {E : MEnv} {I : II} {T : TT} {Q : QQ} {x2 : Int32} {x3 : Int32} {x4 : Int32} (hq : t_Plan_readSteps_16 E I T Q x2 x3 x4) : ev E 97 16 [some (.ref 23), some (.ref 1), some (.int x2), some (.int x3), some (.int x4)] [] I T Q := by
  unfold t_Plan_readSteps_16 at hq
  refine ev_seq 1 (ip' := 17) (loc' := [some (.ref 23), some (.ref 1), some (.int x2), some (.int x3), some (.int x4)]) (st' := [(.int x2)]) (I1 := I) (T1 := T) rfl ?_
  refine ev_br (p := x2 ≤ 0) (a := 22) (b := 18) (st' := []) inferInstance rfl rfl (fun hb => ?_) (fun hb => ?_)
  · have hq := hq.1 hb
    refine ev_fg [true, true, true, true, false] (loc' := [some (.ref 23), some (.ref 1), some (.int x2), some (.int x3), none]) rfl ?_
    exact s_Plan_readSteps_22 (T := T) hq
  · have hq := hq.2 hb
    refine ev_seq 2 (ip' := 20) (loc' := [some (.ref 23), some (.ref 1), some (.int x2), some (.int x3), some (.int x4)]) (st' := [(.int 93), (.int x4)]) (I1 := I) (T1 := T) rfl ?_
    refine ev_br (p := x4 = 93) (a := 21) (b := 22) (st' := []) inferInstance rfl rfl (fun hb => ?_) (fun hb => ?_)
    · have hq := hq.1 hb
      refine ev_fg [false, false, false, false, false] (loc' := [none, none, none, none, none]) rfl ?_
      exact s_Plan_readSteps_21 (T := T) hq
    · have hq := hq.2 hb
      refine ev_fg [true, true, true, true, false] (loc' := [some (.ref 23), some (.ref 1), some (.int x2), some (.int x3), none]) rfl ?_
      exact s_Plan_readSteps_22 (T := T) hq
def t_Plan_readSteps_2 (E : MEnv) (I : II) (T : TT) (Q : QQ) (x2 : Int32) (x3 : Int32) : Prop := (30 < x3 → (t_Plan_readSteps_31 E I T Q )) ∧ (¬ (30 < x3) → (ev E 31 0 [some (.ref 1)] [] I T (KI (fun v1 I1 T1 => (v1 = 0 → (t_Plan_readSteps_31 E I1 T1 Q )) ∧ (¬ (v1 = 0) → (ev E 32 0 [some (.ref 1)] [] I1 T1 (KI (fun v2 I2 T2 => (x2 = 0 → ((v2 = (-1) → (t_Plan_readSteps_21 E I2 T2 Q )) ∧ (¬ (v2 = (-1)) → (t_Plan_readSteps_16 E I2 T2 Q x2 x3 v2)))) ∧ (¬ (x2 = 0) → (t_Plan_readSteps_16 E I2 T2 Q x2 x3 v2))) (fun x I1 T1 => Q (.inr x) I1 T1))))) (fun x I1 T1 => Q (.inr x) I1 T1))))
theorem s_Plan_readSteps_2 {E : MEnv} {I : II} {T : TT} {Q : QQ} {x2 : Int32} {x3 : Int32} (hq : t_Plan_readSteps_2 E I T Q x2 x3) : ev E 97 2 [some (.ref 23), some (.ref 1), some (.int x2), some (.int x3), none] [] I T Q := by
  unfold t_Plan_readSteps_2 at hq
  refine ev_seq 2 (ip' := 4) (loc' := [some (.ref 23), some (.ref 1), some (.int x2), some (.int x3), none]) (st' := [(.int 30), (.int x3)]) (I1 := I) (T1 := T) rfl ?_
  refine ev_br (p := 30 < x3) (a := 31) (b := 5) (st' := []) inferInstance rfl rfl (fun hb => ?_) (fun hb => ?_)
  · have hq := hq.1 hb
    refine ev_fg [false, false, false, false, true] (loc' := [none, none, none, none, none]) rfl ?_
    exact s_Plan_readSteps_31 (T := T) hq
  · have hq := hq.2 hb
    refine ev_seq 1 (ip' := 6) (loc' := [some (.ref 23), some (.ref 1), some (.int x2), some (.int x3), none]) (st' := [(.ref 1)]) (I1 := I) (T1 := T) rfl ?_
    refine ev_callI rfl rfl rfl (fun v1 I1 T1 hq => ?_) (fun x I1 T1 hq => ?_) hq
    · refine ev_br (p := v1 = 0) (a := 31) (b := 8) (st' := []) inferInstance rfl rfl (fun hb => ?_) (fun hb => ?_)
      · have hq := hq.1 hb
        refine ev_fg [false, false, false, false, true] (loc' := [none, none, none, none, none]) rfl ?_
        exact s_Plan_readSteps_31 (T := T1) hq
      · have hq := hq.2 hb
        refine ev_seq 1 (ip' := 9) (loc' := [some (.ref 23), some (.ref 1), some (.int x2), some (.int x3), none]) (st' := [(.ref 1)]) (I1 := I1) (T1 := T1) rfl ?_
        refine ev_callI rfl rfl rfl (fun v2 I2 T2 hq => ?_) (fun x I1 T1 hq => ?_) hq
        · refine ev_seq 2 (ip' := 12) (loc' := [some (.ref 23), some (.ref 1), some (.int x2), some (.int x3), some (.int v2)]) (st' := [(.int x2)]) (I1 := I2) (T1 := T2) rfl ?_
          refine ev_br (p := x2 = 0) (a := 13) (b := 16) (st' := []) inferInstance rfl rfl (fun hb => ?_) (fun hb => ?_)
          · have hq := hq.1 hb
            refine ev_seq 2 (ip' := 15) (loc' := [some (.ref 23), some (.ref 1), some (.int x2), some (.int x3), some (.int v2)]) (st' := [(.int (-1)), (.int v2)]) (I1 := I2) (T1 := T2) rfl ?_
            refine ev_br (p := v2 = (-1)) (a := 21) (b := 16) (st' := []) inferInstance rfl rfl (fun hb => ?_) (fun hb => ?_)
            · have hq := hq.1 hb
              refine ev_fg [false, false, false, false, false] (loc' := [none, none, none, none, none]) rfl ?_
              exact s_Plan_readSteps_21 (T := T2) hq
            · have hq := hq.2 hb
              exact s_Plan_readSteps_16 (T := T2) hq
          · have hq := hq.2 hb
            exact s_Plan_readSteps_16 (T := T2) hq
        · exact ⟨by decide, hq⟩
    · exact ⟨by decide, hq⟩
def t_Plan_readSteps_0 (E : MEnv) (I : II) (T : TT) (Q : QQ) (x2 : Int32) : Prop := t_Plan_readSteps_2 E I T Q x2 0
theorem s_Plan_readSteps_0 {E : MEnv} {I : II} {T : TT} {Q : QQ} {x2 : Int32} (hq : t_Plan_readSteps_0 E I T Q x2) : ev E 97 0 [some (.ref 23), some (.ref 1), some (.int x2), none, none] [] I T Q := by
  unfold t_Plan_readSteps_0 at hq
  refine ev_seq 2 (ip' := 2) (loc' := [some (.ref 23), some (.ref 1), some (.int x2), some (.int 0), none]) (st' := []) (I1 := I) (T1 := T) rfl ?_
  exact s_Plan_readSteps_2 (T := T) hq
/-- FeltHarness$Plan.runAgain(LFeltHarness$Coach;II)V -/
def t_Plan_runAgain_28_8 (d9 : Nat) (X9 : Nat × (Nat → Int32)) (I : II) (T : TT) (Q : QQ) : Prop := Q (.inl none) I T
theorem s_Plan_runAgain_28_8 {d9 : Nat} {X9 : Nat × (Nat → Int32)} {I : II} {T : TT} {Q : QQ} (hq : t_Plan_runAgain_28_8 d9 X9 I T Q) : ev (d9 + 1, X9) 103 8 [none, none, none, none, none] [] I T Q := by
  unfold t_Plan_runAgain_28_8 at hq
  exact ev_ret rfl rfl hq
def t_Plan_runAgain_28_36 (d9 : Nat) (X9 : Nat × (Nat → Int32)) (I : II) (T : TT) (Q : QQ) : Prop := Q (.inl none) I T
theorem s_Plan_runAgain_28_36 {d9 : Nat} {X9 : Nat × (Nat → Int32)} {I : II} {T : TT} {Q : QQ} (hq : t_Plan_runAgain_28_36 d9 X9 I T Q) : ev (d9 + 1, X9) 103 36 [none, none, none, none, none] [] I T Q := by
  unfold t_Plan_runAgain_28_36 at hq
  exact ev_ret rfl rfl hq
def t_Plan_runAgain_28_11 (d9 : Nat) (X9 : Nat × (Nat → Int32)) (I : II) (T : TT) (Q : QQ) (x2 : Int32) (x3 : Int32) (x4 : Int32) : Prop := (¬ x2 < 0 ∧ x2.toNatClampNeg < 30) ∧ (((I 25 x2.toNatClampNeg) ≤ x4 → (t_Plan_runAgain_28_36 d9 X9 I T Q )) ∧ (¬ ((I 25 x2.toNatClampNeg) ≤ x4) → ((200 ≤ (I 23 6) → (t_Plan_runAgain_28_36 d9 X9 I T Q )) ∧ (¬ (200 ≤ (I 23 6)) → ((¬ x2 < 0 ∧ x2.toNatClampNeg < 30) ∧ (ev (d9, X9) 102 0 [some (.ref 23), some (.ref 28), some (.int (x2 + 1)), some (.int (I 27 x2.toNatClampNeg)), some (.int (x3 + 1)), none, none] [] I T (KV (fun I1 T1 => ev (d9 + 1, X9) 103 11 [some (.ref 23), some (.ref 28), some (.int x2), some (.int x3), some (.int (x4 + 1))] [] I1 T1 Q) (fun x I1 T1 => Q (.inr x) I1 T1))))))))
theorem s_Plan_runAgain_28_11 {d9 : Nat} {X9 : Nat × (Nat → Int32)} {I : II} {T : TT} {Q : QQ} {x2 : Int32} {x3 : Int32} {x4 : Int32} (hq : t_Plan_runAgain_28_11 d9 X9 I T Q x2 x3 x4) : ev (d9 + 1, X9) 103 11 [some (.ref 23), some (.ref 28), some (.int x2), some (.int x3), some (.int x4)] [] I T Q := by
  unfold t_Plan_runAgain_28_11 at hq
  refine ev_seq 4 (ip' := 15) (loc' := [some (.ref 23), some (.ref 28), some (.int x2), some (.int x3), some (.int x4)]) (st' := [(.int x2), (.ref 25), (.int x4)]) (I1 := I) (T1 := T) rfl ?_
  obtain ⟨hg, hq⟩ := hq
  refine ev_iald rfl rfl hg ?_
  refine ev_br (p := (I 25 x2.toNatClampNeg) ≤ x4) (a := 36) (b := 17) (st' := []) inferInstance rfl rfl (fun hb => ?_) (fun hb => ?_)
  · have hq := hq.1 hb
    refine ev_fg [false, false, false, false, false] (loc' := [none, none, none, none, none]) rfl ?_
    exact s_Plan_runAgain_28_36 (T := T) hq
  · have hq := hq.2 hb
    refine ev_seq 3 (ip' := 20) (loc' := [some (.ref 23), some (.ref 28), some (.int x2), some (.int x3), some (.int x4)]) (st' := [(.int 200), (.int (I 23 6))]) (I1 := I) (T1 := T) rfl ?_
    refine ev_br (p := 200 ≤ (I 23 6)) (a := 36) (b := 21) (st' := []) inferInstance rfl rfl (fun hb => ?_) (fun hb => ?_)
    · have hq := hq.1 hb
      refine ev_fg [false, false, false, false, false] (loc' := [none, none, none, none, none]) rfl ?_
      exact s_Plan_runAgain_28_36 (T := T) hq
    · have hq := hq.2 hb
      refine ev_seq 8 (ip' := 29) (loc' := [some (.ref 23), some (.ref 28), some (.int x2), some (.int x3), some (.int x4)]) (st' := [(.int x2), (.ref 27), (.int (x2 + 1)), (.ref 28), (.ref 23)]) (I1 := I) (T1 := T) rfl ?_
      obtain ⟨hg, hq⟩ := hq
      refine ev_iald rfl rfl hg ?_
      refine ev_seq 3 (ip' := 33) (loc' := [some (.ref 23), some (.ref 28), some (.int x2), some (.int x3), some (.int x4)]) (st' := [(.int (x3 + 1)), (.int (I 27 x2.toNatClampNeg)), (.int (x2 + 1)), (.ref 28), (.ref 23)]) (I1 := I) (T1 := T) rfl ?_
      refine ev_callV rfl rfl rfl (fun I1 T1 hq => ?_) (fun x I1 T1 hq => ?_) hq
      · refine ev_seq 2 (ip' := 11) (loc' := [some (.ref 23), some (.ref 28), some (.int x2), some (.int x3), some (.int (x4 + 1))]) (st' := []) (I1 := I1) (T1 := T1) rfl ?_
        exact hq
      · exact ⟨by decide, hq⟩
def t_Plan_runAgain_28_0 (d9 : Nat) (X9 : Nat × (Nat → Int32)) (I : II) (T : TT) (Q : QQ) (x2 : Int32) (x3 : Int32) : Prop := (6 < x3 → (t_Plan_runAgain_28_8 d9 X9 I T Q )) ∧ (¬ (6 < x3) → ((x2 < 0 → (t_Plan_runAgain_28_8 d9 X9 I T Q )) ∧ (¬ (x2 < 0) → ((x2 < 30 → (t_Plan_runAgain_28_11 d9 X9 I T Q x2 x3 0)) ∧ (¬ (x2 < 30) → (t_Plan_runAgain_28_8 d9 X9 I T Q ))))))
theorem s_Plan_runAgain_28_0 {d9 : Nat} {X9 : Nat × (Nat → Int32)} {I : II} {T : TT} {Q : QQ} {x2 : Int32} {x3 : Int32} (hq : t_Plan_runAgain_28_0 d9 X9 I T Q x2 x3) : ev (d9 + 1, X9) 103 0 [some (.ref 23), some (.ref 28), some (.int x2), some (.int x3), none] [] I T Q := by
  unfold t_Plan_runAgain_28_0 at hq
  refine ev_seq 2 (ip' := 2) (loc' := [some (.ref 23), some (.ref 28), some (.int x2), some (.int x3), none]) (st' := [(.int 6), (.int x3)]) (I1 := I) (T1 := T) rfl ?_
  refine ev_br (p := 6 < x3) (a := 8) (b := 3) (st' := []) inferInstance rfl rfl (fun hb => ?_) (fun hb => ?_)
  · have hq := hq.1 hb
    refine ev_fg [false, false, false, false, true] (loc' := [none, none, none, none, none]) rfl ?_
    exact s_Plan_runAgain_28_8 (T := T) hq
  · have hq := hq.2 hb
    refine ev_seq 1 (ip' := 4) (loc' := [some (.ref 23), some (.ref 28), some (.int x2), some (.int x3), none]) (st' := [(.int x2)]) (I1 := I) (T1 := T) rfl ?_
    refine ev_br (p := x2 < 0) (a := 8) (b := 5) (st' := []) inferInstance rfl rfl (fun hb => ?_) (fun hb => ?_)
    · have hq := hq.1 hb
      refine ev_fg [false, false, false, false, true] (loc' := [none, none, none, none, none]) rfl ?_
      exact s_Plan_runAgain_28_8 (T := T) hq
    · have hq := hq.2 hb
      refine ev_seq 2 (ip' := 7) (loc' := [some (.ref 23), some (.ref 28), some (.int x2), some (.int x3), none]) (st' := [(.int 30), (.int x2)]) (I1 := I) (T1 := T) rfl ?_
      refine ev_br (p := x2 < 30) (a := 9) (b := 8) (st' := []) inferInstance rfl rfl (fun hb => ?_) (fun hb => ?_)
      · have hq := hq.1 hb
        refine ev_seq 2 (ip' := 11) (loc' := [some (.ref 23), some (.ref 28), some (.int x2), some (.int x3), some (.int 0)]) (st' := []) (I1 := I) (T1 := T) rfl ?_
        exact s_Plan_runAgain_28_11 (T := T) hq
      · have hq := hq.2 hb
        refine ev_fg [false, false, false, false, true] (loc' := [none, none, none, none, none]) rfl ?_
        exact s_Plan_runAgain_28_8 (T := T) hq
/-- FeltHarness$Plan.runSteps(LFeltHarness$Coach;III)V -/
def t_Plan_runSteps_28_73 (E : MEnv) (I : II) (T : TT) (Q : QQ) : Prop := Q (.inl none) I T
theorem s_Plan_runSteps_28_73 {E : MEnv} {I : II} {T : TT} {Q : QQ} (hq : t_Plan_runSteps_28_73 E I T Q) : ev E 102 73 [none, none, none, none, none, none, none] [] I T Q := by
  unfold t_Plan_runSteps_28_73 at hq
  exact ev_ret rfl rfl hq
def t_Plan_runSteps_28_66 (E : MEnv) (I : II) (T : TT) (Q : QQ) (x3 : Int32) (x4 : Int32) (x5 : Int32) (x6 : Int32) : Prop := (¬ x5 < 0 ∧ x5.toNatClampNeg < 30) ∧ (ev E 102 4 [some (.ref 23), some (.ref 28), none, some (.int x3), some (.int x4), some (.int (I 27 x5.toNatClampNeg)), some (.int (x6 + 1))] [] I T Q)
theorem s_Plan_runSteps_28_66 {E : MEnv} {I : II} {T : TT} {Q : QQ} {x3 : Int32} {x4 : Int32} {x5 : Int32} {x6 : Int32} (hq : t_Plan_runSteps_28_66 E I T Q x3 x4 x5 x6) : ev E 102 66 [some (.ref 23), some (.ref 28), none, some (.int x3), some (.int x4), some (.int x5), some (.int x6)] [] I T Q := by
  unfold t_Plan_runSteps_28_66 at hq
  refine ev_seq 3 (ip' := 69) (loc' := [some (.ref 23), some (.ref 28), none, some (.int x3), some (.int x4), some (.int x5), some (.int x6)]) (st' := [(.int x5), (.ref 27)]) (I1 := I) (T1 := T) rfl ?_
  obtain ⟨hg, hq⟩ := hq
  refine ev_iald rfl rfl hg ?_
  refine ev_seq 3 (ip' := 4) (loc' := [some (.ref 23), some (.ref 28), none, some (.int x3), some (.int x4), some (.int (I 27 x5.toNatClampNeg)), some (.int (x6 + 1))]) (st' := []) (I1 := I) (T1 := T) rfl ?_
  exact hq
def t_Plan_runSteps_28_4 (E : MEnv) (I : II) (T : TT) (Q : QQ) (x3 : Int32) (x4 : Int32) (x5 : Int32) (x6 : Int32) : Prop := (30 ≤ x6 → (t_Plan_runSteps_28_73 E I T Q )) ∧ (¬ (30 ≤ x6) → ((x5 < 0 → (t_Plan_runSteps_28_73 E I T Q )) ∧ (¬ (x5 < 0) → ((x3 ≤ x5 → (t_Plan_runSteps_28_73 E I T Q )) ∧ (¬ (x3 ≤ x5) → ((30 ≤ x5 → (t_Plan_runSteps_28_73 E I T Q )) ∧ (¬ (30 ≤ x5) → (((I 23 6) < 200 → ((¬ x5 < 0 ∧ x5.toNatClampNeg < 30) ∧ ((((m_up I 23 6 ((I 23 6) + 1)) 24 x5.toNatClampNeg) = 6 → (ev E 103 0 [some (.ref 23), some (.ref 28), some (.int x5), some (.int x4), none] [] (m_up I 23 6 ((I 23 6) + 1)) T (KV (fun I1 T1 => t_Plan_runSteps_28_66 E I1 T1 Q x3 x4 x5 x6) (fun x I1 T1 => Q (.inr x) I1 T1)))) ∧ (¬ (((m_up I 23 6 ((I 23 6) + 1)) 24 x5.toNatClampNeg) = 6) → ((¬ x5 < 0 ∧ x5.toNatClampNeg < 30) ∧ ((¬ x5 < 0 ∧ x5.toNatClampNeg < 30) ∧ ((¬ x5 < 0 ∧ x5.toNatClampNeg < 30) ∧ (ev E 104 0 [some (.ref 28), some (.int ((m_up I 23 6 ((I 23 6) + 1)) 24 x5.toNatClampNeg)), some (.int ((m_up I 23 6 ((I 23 6) + 1)) 25 x5.toNatClampNeg)), some (.int ((m_up I 23 6 ((I 23 6) + 1)) 26 x5.toNatClampNeg)), none] [] (m_up I 23 6 ((I 23 6) + 1)) T (KI (fun v2 I2 T2 => (v2 = 0 → (t_Plan_runSteps_28_66 E (m_up I2 23 8 ((I2 23 8) + 1)) T2 Q x3 x4 x5 x6)) ∧ (¬ (v2 = 0) → (t_Plan_runSteps_28_66 E (m_up I2 23 7 ((I2 23 7) + 1)) T2 Q x3 x4 x5 x6))) (fun x I1 T1 => Q (.inr x) I1 T1)))))))))) ∧ (¬ ((I 23 6) < 200) → (Q (.inl none) I T))))))))))
theorem s_Plan_runSteps_28_4 {E : MEnv} {I : II} {T : TT} {Q : QQ} {x3 : Int32} {x4 : Int32} {x5 : Int32} {x6 : Int32} (hq : t_Plan_runSteps_28_4 E I T Q x3 x4 x5 x6) : ev E 102 4 [some (.ref 23), some (.ref 28), none, some (.int x3), some (.int x4), some (.int x5), some (.int x6)] [] I T Q := by
  unfold t_Plan_runSteps_28_4 at hq
  refine ev_seq 2 (ip' := 6) (loc' := [some (.ref 23), some (.ref 28), none, some (.int x3), some (.int x4), some (.int x5), some (.int x6)]) (st' := [(.int 30), (.int x6)]) (I1 := I) (T1 := T) rfl ?_
  refine ev_br (p := 30 ≤ x6) (a := 73) (b := 7) (st' := []) inferInstance rfl rfl (fun hb => ?_) (fun hb => ?_)
  · have hq := hq.1 hb
    refine ev_fg [false, false, true, false, false, false, false] (loc' := [none, none, none, none, none, none, none]) rfl ?_
    exact s_Plan_runSteps_28_73 (T := T) hq
  · have hq := hq.2 hb
    refine ev_seq 1 (ip' := 8) (loc' := [some (.ref 23), some (.ref 28), none, some (.int x3), some (.int x4), some (.int x5), some (.int x6)]) (st' := [(.int x5)]) (I1 := I) (T1 := T) rfl ?_
    refine ev_br (p := x5 < 0) (a := 73) (b := 9) (st' := []) inferInstance rfl rfl (fun hb => ?_) (fun hb => ?_)
    · have hq := hq.1 hb
      refine ev_fg [false, false, true, false, false, false, false] (loc' := [none, none, none, none, none, none, none]) rfl ?_
      exact s_Plan_runSteps_28_73 (T := T) hq
    · have hq := hq.2 hb
      refine ev_seq 2 (ip' := 11) (loc' := [some (.ref 23), some (.ref 28), none, some (.int x3), some (.int x4), some (.int x5), some (.int x6)]) (st' := [(.int x3), (.int x5)]) (I1 := I) (T1 := T) rfl ?_
      refine ev_br (p := x3 ≤ x5) (a := 73) (b := 12) (st' := []) inferInstance rfl rfl (fun hb => ?_) (fun hb => ?_)
      · have hq := hq.1 hb
        refine ev_fg [false, false, true, false, false, false, false] (loc' := [none, none, none, none, none, none, none]) rfl ?_
        exact s_Plan_runSteps_28_73 (T := T) hq
      · have hq := hq.2 hb
        refine ev_seq 2 (ip' := 14) (loc' := [some (.ref 23), some (.ref 28), none, some (.int x3), some (.int x4), some (.int x5), some (.int x6)]) (st' := [(.int 30), (.int x5)]) (I1 := I) (T1 := T) rfl ?_
        refine ev_br (p := 30 ≤ x5) (a := 73) (b := 15) (st' := []) inferInstance rfl rfl (fun hb => ?_) (fun hb => ?_)
        · have hq := hq.1 hb
          refine ev_fg [false, false, true, false, false, false, false] (loc' := [none, none, none, none, none, none, none]) rfl ?_
          exact s_Plan_runSteps_28_73 (T := T) hq
        · have hq := hq.2 hb
          refine ev_seq 3 (ip' := 18) (loc' := [some (.ref 23), some (.ref 28), none, some (.int x3), some (.int x4), some (.int x5), some (.int x6)]) (st' := [(.int 200), (.int (I 23 6))]) (I1 := I) (T1 := T) rfl ?_
          refine ev_br (p := (I 23 6) < 200) (a := 20) (b := 19) (st' := []) inferInstance rfl rfl (fun hb => ?_) (fun hb => ?_)
          · have hq := hq.1 hb
            refine ev_seq 9 (ip' := 29) (loc' := [some (.ref 23), some (.ref 28), none, some (.int x3), some (.int x4), some (.int x5), some (.int x6)]) (st' := [(.int x5), (.ref 24)]) (I1 := m_up I 23 6 ((I 23 6) + 1)) (T1 := T) rfl ?_
            obtain ⟨hg, hq⟩ := hq
            refine ev_iald rfl rfl hg ?_
            refine ev_seq 1 (ip' := 31) (loc' := [some (.ref 23), some (.ref 28), none, some (.int x3), some (.int x4), some (.int x5), some (.int x6)]) (st' := [(.int 6), (.int ((m_up I 23 6 ((I 23 6) + 1)) 24 x5.toNatClampNeg))]) (I1 := m_up I 23 6 ((I 23 6) + 1)) (T1 := T) rfl ?_
            refine ev_br (p := ((m_up I 23 6 ((I 23 6) + 1)) 24 x5.toNatClampNeg) = 6) (a := 32) (b := 38) (st' := []) inferInstance rfl rfl (fun hb => ?_) (fun hb => ?_)
            · have hq := hq.1 hb
              refine ev_seq 4 (ip' := 36) (loc' := [some (.ref 23), some (.ref 28), none, some (.int x3), some (.int x4), some (.int x5), some (.int x6)]) (st' := [(.int x4), (.int x5), (.ref 28), (.ref 23)]) (I1 := m_up I 23 6 ((I 23 6) + 1)) (T1 := T) rfl ?_
              refine ev_callV rfl rfl rfl (fun I1 T1 hq => ?_) (fun x I1 T1 hq => ?_) hq
              · refine ev_seq 1 (ip' := 66) (loc' := [some (.ref 23), some (.ref 28), none, some (.int x3), some (.int x4), some (.int x5), some (.int x6)]) (st' := []) (I1 := I1) (T1 := T1) rfl ?_
                exact s_Plan_runSteps_28_66 (T := T1) hq
              · exact ⟨by decide, hq⟩
            · have hq := hq.2 hb
              refine ev_seq 4 (ip' := 42) (loc' := [some (.ref 23), some (.ref 28), none, some (.int x3), some (.int x4), some (.int x5), some (.int x6)]) (st' := [(.int x5), (.ref 24), (.ref 28)]) (I1 := m_up I 23 6 ((I 23 6) + 1)) (T1 := T) rfl ?_
              obtain ⟨hg, hq⟩ := hq
              refine ev_iald rfl rfl hg ?_
              refine ev_seq 3 (ip' := 46) (loc' := [some (.ref 23), some (.ref 28), none, some (.int x3), some (.int x4), some (.int x5), some (.int x6)]) (st' := [(.int x5), (.ref 25), (.int ((m_up I 23 6 ((I 23 6) + 1)) 24 x5.toNatClampNeg)), (.ref 28)]) (I1 := m_up I 23 6 ((I 23 6) + 1)) (T1 := T) rfl ?_
              obtain ⟨hg, hq⟩ := hq
              refine ev_iald rfl rfl hg ?_
              refine ev_seq 3 (ip' := 50) (loc' := [some (.ref 23), some (.ref 28), none, some (.int x3), some (.int x4), some (.int x5), some (.int x6)]) (st' := [(.int x5), (.ref 26), (.int ((m_up I 23 6 ((I 23 6) + 1)) 25 x5.toNatClampNeg)), (.int ((m_up I 23 6 ((I 23 6) + 1)) 24 x5.toNatClampNeg)), (.ref 28)]) (I1 := m_up I 23 6 ((I 23 6) + 1)) (T1 := T) rfl ?_
              obtain ⟨hg, hq⟩ := hq
              refine ev_iald rfl rfl hg ?_
              refine ev_callI rfl rfl rfl (fun v2 I2 T2 hq => ?_) (fun x I1 T1 hq => ?_) hq
              · refine ev_br (p := v2 = 0) (a := 60) (b := 53) (st' := []) inferInstance rfl rfl (fun hb => ?_) (fun hb => ?_)
                · have hq := hq.1 hb
                  refine ev_seq 6 (ip' := 66) (loc' := [some (.ref 23), some (.ref 28), none, some (.int x3), some (.int x4), some (.int x5), some (.int x6)]) (st' := []) (I1 := m_up I2 23 8 ((I2 23 8) + 1)) (T1 := T2) rfl ?_
                  exact s_Plan_runSteps_28_66 (T := T2) hq
                · have hq := hq.2 hb
                  refine ev_seq 7 (ip' := 66) (loc' := [some (.ref 23), some (.ref 28), none, some (.int x3), some (.int x4), some (.int x5), some (.int x6)]) (st' := []) (I1 := m_up I2 23 7 ((I2 23 7) + 1)) (T1 := T2) rfl ?_
                  exact s_Plan_runSteps_28_66 (T := T2) hq
              · exact ⟨by decide, hq⟩
          · have hq := hq.2 hb
            exact ev_ret rfl rfl hq
def t_Plan_runSteps_28_0 (E : MEnv) (I : II) (T : TT) (Q : QQ) (x2 : Int32) (x3 : Int32) (x4 : Int32) : Prop := t_Plan_runSteps_28_4 E I T Q x3 x4 x2 0
theorem s_Plan_runSteps_28_0 {E : MEnv} {I : II} {T : TT} {Q : QQ} {x2 : Int32} {x3 : Int32} {x4 : Int32} (hq : t_Plan_runSteps_28_0 E I T Q x2 x3 x4) : ev E 102 0 [some (.ref 23), some (.ref 28), some (.int x2), some (.int x3), some (.int x4), none, none] [] I T Q := by
  unfold t_Plan_runSteps_28_0 at hq
  refine ev_seq 4 (ip' := 4) (loc' := [some (.ref 23), some (.ref 28), some (.int x2), some (.int x3), some (.int x4), some (.int x2), some (.int 0)]) (st' := []) (I1 := I) (T1 := T) rfl ?_
  refine ev_fg [true, true, false, true, true, true, true] (loc' := [some (.ref 23), some (.ref 28), none, some (.int x3), some (.int x4), some (.int x2), some (.int 0)]) rfl ?_
  exact s_Plan_runSteps_28_4 (T := T) hq
