/-- FeltHarness.stage(II)I -/
def t_X_stage_0 (E : MEnv) (I : II) (T : TT) (Q : QQ) (x1 : Int32) (x2 : Int32) : Prop := ev E 193 0 [some (.ref 0), some (.int x1)] [] I T (KV (fun I1 T1 => ev E 27 0 [some (.int x2), some (.int 0), some (.int 2)] [] I1 T1 (KI (fun v2 I2 T2 => ev E 28 0 [some (.ref 0), some (.int v2)] [] I2 T2 (KV (fun I3 T3 => ev E 192 (m_lsw [(0, 28), (1, 37)] [11, 16] 21 x2) [some (.ref 0), some (.int x1), some (.int x2)] [] I3 T3 Q) (fun x I1 T1 => Q (.inr x) I1 T1))) (fun _ _ _ => False))) (fun x I1 T1 => Q (.inr x) I1 T1))
theorem s_X_stage_0 {E : MEnv} {I : II} {T : TT} {Q : QQ} {x1 : Int32} {x2 : Int32} (hq : t_X_stage_0 E I T Q x1 x2) : ev E 192 0 [some (.ref 0), some (.int x1), some (.int x2)] [] I T Q := by
  unfold t_X_stage_0 at hq
  refine ev_seq 2 (ip' := 2) (loc' := [some (.ref 0), some (.int x1), some (.int x2)]) (st' := [(.int x1), (.ref 0)]) (I1 := I) (T1 := T) rfl ?_
  refine ev_callV rfl rfl rfl (fun I1 T1 hq => ?_) (fun x I1 T1 hq => ?_) hq
  · refine ev_seq 4 (ip' := 7) (loc' := [some (.ref 0), some (.int x1), some (.int x2)]) (st' := [(.int 2), (.int 0), (.int x2), (.ref 0)]) (I1 := I1) (T1 := T1) rfl ?_
    refine ev_callI rfl rfl rfl (fun v2 I2 T2 hq => ?_) (fun x I1 T1 hq => ?_) hq
    · refine ev_callV rfl rfl rfl (fun I3 T3 hq => ?_) (fun x I1 T1 hq => ?_) hq
      · refine ev_seq 1 (ip' := 10) (loc' := [some (.ref 0), some (.int x1), some (.int x2)]) (st' := [(.int x2)]) (I1 := I3) (T1 := T3) rfl ?_
        refine ev_jp rfl rfl ?_
        exact hq
      · exact ⟨by decide, hq⟩
    · exact hq.elim
  · exact ⟨by decide, hq⟩
def t_X_stage_11 (E : MEnv) (I : II) (T : TT) (Q : QQ) (x1 : Int32) : Prop := ev E 135 0 [some (.ref 3), some (.int x1)] [] I T (KI (fun v1 I1 T1 => Q (.inl (some (.int v1))) I1 T1) (fun x I1 T1 => Q (.inr x) I1 T1))
theorem s_X_stage_11 {E : MEnv} {I : II} {T : TT} {Q : QQ} {x1 : Int32} (hq : t_X_stage_11 E I T Q x1) : ev E 192 11 [some (.ref 0), some (.int x1), none] [] I T Q := by
  unfold t_X_stage_11 at hq
  refine ev_seq 3 (ip' := 14) (loc' := [some (.ref 0), some (.int x1), none]) (st' := [(.int x1), (.ref 3)]) (I1 := I) (T1 := T) rfl ?_
  refine ev_callI rfl rfl rfl (fun v1 I1 T1 hq => ?_) (fun x I1 T1 hq => ?_) hq
  · exact ev_ret rfl rfl hq
  · exact ⟨by decide, hq⟩
def t_X_stage_16 (E : MEnv) (I : II) (T : TT) (Q : QQ) (x1 : Int32) : Prop := ev E 137 0 [some (.ref 3), some (.int x1)] [] I T (KI (fun v1 I1 T1 => Q (.inl (some (.int v1))) I1 T1) (fun x I1 T1 => Q (.inr x) I1 T1))
theorem s_X_stage_16 {E : MEnv} {I : II} {T : TT} {Q : QQ} {x1 : Int32} (hq : t_X_stage_16 E I T Q x1) : ev E 192 16 [some (.ref 0), some (.int x1), none] [] I T Q := by
  unfold t_X_stage_16 at hq
  refine ev_seq 3 (ip' := 19) (loc' := [some (.ref 0), some (.int x1), none]) (st' := [(.int x1), (.ref 3)]) (I1 := I) (T1 := T) rfl ?_
  refine ev_callI rfl rfl rfl (fun v1 I1 T1 hq => ?_) (fun x I1 T1 hq => ?_) hq
  · exact ev_ret rfl rfl hq
  · exact ⟨by decide, hq⟩
def t_X_stage_29 (E : MEnv) (I : II) (T : TT) (Q : QQ) (y0 : Int32) : Prop := Q (.inl (some (.int y0))) I T
theorem s_X_stage_29 {E : MEnv} {I : II} {T : TT} {Q : QQ} {y0 : Int32} (hq : t_X_stage_29 E I T Q y0) : ev E 192 29 [none, none, none] [(.int y0)] I T Q := by
  unfold t_X_stage_29 at hq
  exact ev_ret rfl rfl hq
def t_X_stage_21 (E : MEnv) (I : II) (T : TT) (Q : QQ) (x1 : Int32) : Prop := ev E 115 0 [some (.ref 28)] [] I T (KI (fun v1 I1 T1 => (v1 ≤ x1 → (t_X_stage_29 E I1 T1 Q 0)) ∧ (¬ (v1 ≤ x1) → (t_X_stage_29 E I1 T1 Q 1))) (fun x I1 T1 => Q (.inr x) I1 T1))
theorem s_X_stage_21 {E : MEnv} {I : II} {T : TT} {Q : QQ} {x1 : Int32} (hq : t_X_stage_21 E I T Q x1) : ev E 192 21 [some (.ref 0), some (.int x1), none] [] I T Q := by
  unfold t_X_stage_21 at hq
  refine ev_seq 3 (ip' := 24) (loc' := [some (.ref 0), some (.int x1), none]) (st' := [(.ref 28), (.int x1)]) (I1 := I) (T1 := T) rfl ?_
  refine ev_callI rfl rfl rfl (fun v1 I1 T1 hq => ?_) (fun x I1 T1 hq => ?_) hq
  · refine ev_br (p := v1 ≤ x1) (a := 28) (b := 26) (st' := []) inferInstance rfl rfl (fun hb => ?_) (fun hb => ?_)
    · have hq := hq.1 hb
      refine ev_seq 1 (ip' := 29) (loc' := [some (.ref 0), some (.int x1), none]) (st' := [(.int 0)]) (I1 := I1) (T1 := T1) rfl ?_
      refine ev_fg [false, false, true] (loc' := [none, none, none]) rfl ?_
      exact s_X_stage_29 (T := T1) hq
    · have hq := hq.2 hb
      refine ev_seq 2 (ip' := 29) (loc' := [some (.ref 0), some (.int x1), none]) (st' := [(.int 1)]) (I1 := I1) (T1 := T1) rfl ?_
      refine ev_fg [false, false, true] (loc' := [none, none, none]) rfl ?_
      exact s_X_stage_29 (T := T1) hq
  · exact ⟨by decide, hq⟩
/-- FeltHarness.stall(I)I -/
def t_X_stall_0 (E : MEnv) (I : II) (T : TT) (Q : QQ) (x1 : Int32) : Prop := ev E 188 0 [some (.ref 0), some (.int x1)] [] I T (KV (fun I1 T1 => ev E 233 0 [some (.ref 42), some (.ref 3), none] [] I1 T1 (KI (fun v2 I2 T2 => ev E 241 0 [some (.ref 42), some (.int x1)] [] I2 T2 (KI (fun v3 I3 T3 => Q (.inl (some (.int v3))) I3 T3) (fun x I1 T1 => Q (.inr x) I1 T1))) (fun x I1 T1 => Q (.inr x) I1 T1))) (fun x I1 T1 => Q (.inr x) I1 T1))
theorem s_X_stall_0 {E : MEnv} {I : II} {T : TT} {Q : QQ} {x1 : Int32} (hq : t_X_stall_0 E I T Q x1) : ev E 240 0 [some (.ref 0), some (.int x1)] [] I T Q := by
  unfold t_X_stall_0 at hq
  refine ev_seq 2 (ip' := 2) (loc' := [some (.ref 0), some (.int x1)]) (st' := [(.int x1), (.ref 0)]) (I1 := I) (T1 := T) rfl ?_
  refine ev_callV rfl rfl rfl (fun I1 T1 hq => ?_) (fun x I1 T1 hq => ?_) hq
  · refine ev_seq 4 (ip' := 7) (loc' := [some (.ref 0), some (.int x1)]) (st' := [(.ref 3), (.ref 42)]) (I1 := I1) (T1 := T1) rfl ?_
    refine ev_callI rfl rfl rfl (fun v2 I2 T2 hq => ?_) (fun x I1 T1 hq => ?_) hq
    · refine ev_seq 4 (ip' := 12) (loc' := [some (.ref 0), some (.int x1)]) (st' := [(.int x1), (.ref 42)]) (I1 := I2) (T1 := T2) rfl ?_
      refine ev_callI rfl rfl rfl (fun v3 I3 T3 hq => ?_) (fun x I1 T1 hq => ?_) hq
      · exact ev_ret rfl rfl hq
      · exact ⟨by decide, hq⟩
    · exact ⟨by decide, hq⟩
  · exact ⟨by decide, hq⟩
/-- FeltHarness.stalls()I -/
def t_X_stalls_0 (E : MEnv) (I : II) (T : TT) (Q : QQ) : Prop := ev E 233 0 [some (.ref 42), some (.ref 3), none] [] I T (KI (fun v1 I1 T1 => Q (.inl (some (.int v1))) I1 T1) (fun x I1 T1 => Q (.inr x) I1 T1))
theorem s_X_stalls_0 {E : MEnv} {I : II} {T : TT} {Q : QQ} (hq : t_X_stalls_0 E I T Q) : ev E 232 0 [some (.ref 0)] [] I T Q := by
  unfold t_X_stalls_0 at hq
  refine ev_seq 4 (ip' := 4) (loc' := [some (.ref 0)]) (st' := [(.ref 3), (.ref 42)]) (I1 := I) (T1 := T) rfl ?_
  refine ev_callI rfl rfl rfl (fun v1 I1 T1 hq => ?_) (fun x I1 T1 hq => ?_) hq
  · exact ev_ret rfl rfl hq
  · exact ⟨by decide, hq⟩
/-- FeltHarness.stands(II)I -/
def t_X_stands_0 (E : MEnv) (I : II) (T : TT) (Q : QQ) (x1 : Int32) (x2 : Int32) : Prop := ev E 193 0 [some (.ref 0), some (.int x1)] [] I T (KV (fun I1 T1 => ev E 198 0 [some (.int x2)] [] I1 T1 (KI (fun v2 I2 T2 => ev E 28 0 [some (.ref 0), some (.int v2)] [] I2 T2 (KV (fun I3 T3 => ev E 230 0 [some (.ref 36), some (.ref 28), some (.int x1), some (.int x2)] [] I3 T3 (KI (fun v4 I4 T4 => Q (.inl (some (.int v4))) I4 T4) (fun x I1 T1 => Q (.inr x) I1 T1))) (fun x I1 T1 => Q (.inr x) I1 T1))) (fun _ _ _ => False))) (fun x I1 T1 => Q (.inr x) I1 T1))
theorem s_X_stands_0 {E : MEnv} {I : II} {T : TT} {Q : QQ} {x1 : Int32} {x2 : Int32} (hq : t_X_stands_0 E I T Q x1 x2) : ev E 229 0 [some (.ref 0), some (.int x1), some (.int x2)] [] I T Q := by
  unfold t_X_stands_0 at hq
  refine ev_seq 2 (ip' := 2) (loc' := [some (.ref 0), some (.int x1), some (.int x2)]) (st' := [(.int x1), (.ref 0)]) (I1 := I) (T1 := T) rfl ?_
  refine ev_callV rfl rfl rfl (fun I1 T1 hq => ?_) (fun x I1 T1 hq => ?_) hq
  · refine ev_seq 2 (ip' := 5) (loc' := [some (.ref 0), some (.int x1), some (.int x2)]) (st' := [(.int x2), (.ref 0)]) (I1 := I1) (T1 := T1) rfl ?_
    refine ev_callI rfl rfl rfl (fun v2 I2 T2 hq => ?_) (fun x I1 T1 hq => ?_) hq
    · refine ev_callV rfl rfl rfl (fun I3 T3 hq => ?_) (fun x I1 T1 hq => ?_) hq
      · refine ev_seq 6 (ip' := 13) (loc' := [some (.ref 0), some (.int x1), some (.int x2)]) (st' := [(.int x2), (.int x1), (.ref 28), (.ref 36)]) (I1 := I3) (T1 := T3) rfl ?_
        refine ev_callI rfl rfl rfl (fun v4 I4 T4 hq => ?_) (fun x I1 T1 hq => ?_) hq
        · exact ev_ret rfl rfl hq
        · exact ⟨by decide, hq⟩
      · exact ⟨by decide, hq⟩
    · exact hq.elim
  · exact ⟨by decide, hq⟩
/-- FeltHarness.status(I)I -/
def t_X_status_12 (E : MEnv) (I : II) (T : TT) (Q : QQ) (y0 : Int32) : Prop := Q (.inl (some (.int y0))) I T
theorem s_X_status_12 {E : MEnv} {I : II} {T : TT} {Q : QQ} {y0 : Int32} (hq : t_X_status_12 E I T Q y0) : ev E 332 12 [none, none] [(.int y0)] I T Q := by
  unfold t_X_status_12 at hq
  exact ev_ret rfl rfl hq
def t_X_status_0 (E : MEnv) (I : II) (T : TT) (Q : QQ) (x1 : Int32) : Prop := (x1 = 0 → (t_X_status_12 E I T Q (I 0 14))) ∧ (¬ (x1 = 0) → ((x1 = 1 → (t_X_status_12 E I T Q (I 0 15))) ∧ (¬ (x1 = 1) → (t_X_status_12 E I T Q (-1)))))
theorem s_X_status_0 {E : MEnv} {I : II} {T : TT} {Q : QQ} {x1 : Int32} (hq : t_X_status_0 E I T Q x1) : ev E 332 0 [some (.ref 0), some (.int x1)] [] I T Q := by
  unfold t_X_status_0 at hq
  refine ev_seq 1 (ip' := 1) (loc' := [some (.ref 0), some (.int x1)]) (st' := [(.int x1)]) (I1 := I) (T1 := T) rfl ?_
  refine ev_br (p := x1 = 0) (a := 2) (b := 5) (st' := []) inferInstance rfl rfl (fun hb => ?_) (fun hb => ?_)
  · have hq := hq.1 hb
    refine ev_seq 3 (ip' := 12) (loc' := [some (.ref 0), some (.int x1)]) (st' := [(.int (I 0 14))]) (I1 := I) (T1 := T) rfl ?_
    refine ev_fg [false, false] (loc' := [none, none]) rfl ?_
    exact s_X_status_12 (T := T) hq
  · have hq := hq.2 hb
    refine ev_seq 2 (ip' := 7) (loc' := [some (.ref 0), some (.int x1)]) (st' := [(.int 1), (.int x1)]) (I1 := I) (T1 := T) rfl ?_
    refine ev_br (p := x1 = 1) (a := 8) (b := 11) (st' := []) inferInstance rfl rfl (fun hb => ?_) (fun hb => ?_)
    · have hq := hq.1 hb
      refine ev_seq 3 (ip' := 12) (loc' := [some (.ref 0), some (.int x1)]) (st' := [(.int (I 0 15))]) (I1 := I) (T1 := T) rfl ?_
      refine ev_fg [false, false] (loc' := [none, none]) rfl ?_
      exact s_X_status_12 (T := T) hq
    · have hq := hq.2 hb
      refine ev_seq 1 (ip' := 12) (loc' := [some (.ref 0), some (.int x1)]) (st' := [(.int (-1))]) (I1 := I) (T1 := T) rfl ?_
      refine ev_fg [false, false] (loc' := [none, none]) rfl ?_
      exact s_X_status_12 (T := T) hq
/-- FeltHarness.steady(IIII)J -/
def t_X_steady_76 (E : MEnv) (I : II) (T : TT) (Q : QQ) (y0 : Int64) : Prop := Q (.inl (some (.long y0))) I T
theorem s_X_steady_76 {E : MEnv} {I : II} {T : TT} {Q : QQ} {y0 : Int64} (hq : t_X_steady_76 E I T Q y0) : ev E 270 76 [none, none, none, none, none, none, none, none, none, none, none] [(.long y0)] I T Q := by
  unfold t_X_steady_76 at hq
  exact ev_ret rfl rfl hq
def t_X_steady_29 (E : MEnv) (I : II) (T : TT) (Q : QQ) (x1 : Int32) (x3 : Int32) (x4 : Int32) (x5 : Int64) (x7 : Int32) : Prop := (x1 < x7 → (ev E 272 0 [some (.int 16), some (.int x1), none, none, none] [] I T (KL (fun v1 I1 T1 => ev E 273 0 [some (.long x5), none, some (.long v1), none, none, none, none, none, none, none, none] [] I1 T1 (KL (fun v2 I2 T2 => ((lg_cmp v2 0) = 0 → (Q (.inl (some (.long x4.toInt64))) I2 T2)) ∧ (¬ ((lg_cmp v2 0) = 0) → ((x4 = 0 → (v2 ≠ 0 ∧ (t_X_steady_76 E I2 T2 Q (x5 / v2)))) ∧ (¬ (x4 = 0) → (v2 ≠ 0 ∧ (t_X_steady_76 E I2 T2 Q (v1 / v2))))))) (fun _ _ _ => False))) (fun _ _ _ => False)))) ∧ (¬ (x1 < x7) → (ev E 271 0 [some (.int x1), some (.int x7), none, none, none] [] I T (KL (fun v3 I3 T3 => ev E 272 0 [some (.int (16 - x3)), some (.int x7), none, none, none] [] I3 T3 (KL (fun v4 I4 T4 => ev E 272 0 [some (.int x3), some (.int (x1 - x7)), none, none, none] [] I4 T4 (KL (fun v5 I5 T5 => ev E 270 29 [none, some (.int x1), none, some (.int x3), some (.int x4), some (.long (x5 + ((v3 * v4) * v5))), none, some (.int (x7 + 1)), none, none, none] [] I5 T5 Q) (fun _ _ _ => False))) (fun _ _ _ => False))) (fun _ _ _ => False))))
theorem s_X_steady_29 {E : MEnv} {I : II} {T : TT} {Q : QQ} {x1 : Int32} {x3 : Int32} {x4 : Int32} {x5 : Int64} {x7 : Int32} (hq : t_X_steady_29 E I T Q x1 x3 x4 x5 x7) : ev E 270 29 [none, some (.int x1), none, some (.int x3), some (.int x4), some (.long x5), none, some (.int x7), none, none, none] [] I T Q := by
  unfold t_X_steady_29 at hq
  refine ev_seq 2 (ip' := 31) (loc' := [none, some (.int x1), none, some (.int x3), some (.int x4), some (.long x5), none, some (.int x7), none, none, none]) (st' := [(.int x1), (.int x7)]) (I1 := I) (T1 := T) rfl ?_
  refine ev_br (p := x1 < x7) (a := 52) (b := 32) (st' := []) inferInstance rfl rfl (fun hb => ?_) (fun hb => ?_)
  · have hq := hq.1 hb
    refine ev_seq 2 (ip' := 54) (loc' := [none, some (.int x1), none, some (.int x3), some (.int x4), some (.long x5), none, some (.int x7), none, none, none]) (st' := [(.int x1), (.int 16)]) (I1 := I) (T1 := T) rfl ?_
    refine ev_callL rfl rfl rfl (fun v1 I1 T1 hq => ?_) (fun x I1 T1 hq => ?_) hq
    · refine ev_seq 3 (ip' := 58) (loc' := [none, some (.int x1), none, some (.int x3), some (.int x4), some (.long x5), none, some (.long v1), none, none, none]) (st' := [(.long v1), (.long x5)]) (I1 := I1) (T1 := T1) rfl ?_
      refine ev_callL rfl rfl rfl (fun v2 I2 T2 hq => ?_) (fun x I1 T1 hq => ?_) hq
      · refine ev_seq 4 (ip' := 63) (loc' := [none, some (.int x1), none, some (.int x3), some (.int x4), some (.long x5), none, some (.long v1), none, some (.long v2), none]) (st' := [(.int (lg_cmp v2 0))]) (I1 := I2) (T1 := T2) rfl ?_
        refine ev_br (p := (lg_cmp v2 0) = 0) (a := 64) (b := 67) (st' := []) inferInstance rfl rfl (fun hb => ?_) (fun hb => ?_)
        · have hq := hq.1 hb
          refine ev_seq 2 (ip' := 66) (loc' := [none, some (.int x1), none, some (.int x3), some (.int x4), some (.long x5), none, some (.long v1), none, some (.long v2), none]) (st' := [(.long x4.toInt64)]) (I1 := I2) (T1 := T2) rfl ?_
          exact ev_ret rfl rfl hq
        · have hq := hq.2 hb
          refine ev_seq 1 (ip' := 68) (loc' := [none, some (.int x1), none, some (.int x3), some (.int x4), some (.long x5), none, some (.long v1), none, some (.long v2), none]) (st' := [(.int x4)]) (I1 := I2) (T1 := T2) rfl ?_
          refine ev_br (p := x4 = 0) (a := 69) (b := 73) (st' := []) inferInstance rfl rfl (fun hb => ?_) (fun hb => ?_)
          · have hq := hq.1 hb
            refine ev_seq 2 (ip' := 71) (loc' := [none, some (.int x1), none, some (.int x3), some (.int x4), some (.long x5), none, some (.long v1), none, some (.long v2), none]) (st' := [(.long v2), (.long x5)]) (I1 := I2) (T1 := T2) rfl ?_
            obtain ⟨hg, hq⟩ := hq
            refine ev_pr rfl (ev_ldiv hg) ?_
            refine ev_seq 1 (ip' := 76) (loc' := [none, some (.int x1), none, some (.int x3), some (.int x4), some (.long x5), none, some (.long v1), none, some (.long v2), none]) (st' := [(.long (x5 / v2))]) (I1 := I2) (T1 := T2) rfl ?_
            refine ev_fg [true, false, true, false, false, false, true, false, true, false, true] (loc' := [none, none, none, none, none, none, none, none, none, none, none]) rfl ?_
            exact s_X_steady_76 (T := T2) hq
          · have hq := hq.2 hb
            refine ev_seq 2 (ip' := 75) (loc' := [none, some (.int x1), none, some (.int x3), some (.int x4), some (.long x5), none, some (.long v1), none, some (.long v2), none]) (st' := [(.long v2), (.long v1)]) (I1 := I2) (T1 := T2) rfl ?_
            obtain ⟨hg, hq⟩ := hq
            refine ev_pr rfl (ev_ldiv hg) ?_
            refine ev_fg [true, false, true, false, false, false, true, false, true, false, true] (loc' := [none, none, none, none, none, none, none, none, none, none, none]) rfl ?_
            exact s_X_steady_76 (T := T2) hq
      · exact hq.elim
    · exact hq.elim
  · have hq := hq.2 hb
    refine ev_seq 3 (ip' := 35) (loc' := [none, some (.int x1), none, some (.int x3), some (.int x4), some (.long x5), none, some (.int x7), none, none, none]) (st' := [(.int x7), (.int x1), (.long x5)]) (I1 := I) (T1 := T) rfl ?_
    refine ev_callL rfl rfl rfl (fun v3 I3 T3 hq => ?_) (fun x I1 T1 hq => ?_) hq
    · refine ev_seq 4 (ip' := 40) (loc' := [none, some (.int x1), none, some (.int x3), some (.int x4), some (.long x5), none, some (.int x7), none, none, none]) (st' := [(.int x7), (.int (16 - x3)), (.long v3), (.long x5)]) (I1 := I3) (T1 := T3) rfl ?_
      refine ev_callL rfl rfl rfl (fun v4 I4 T4 hq => ?_) (fun x I1 T1 hq => ?_) hq
      · refine ev_seq 5 (ip' := 46) (loc' := [none, some (.int x1), none, some (.int x3), some (.int x4), some (.long x5), none, some (.int x7), none, none, none]) (st' := [(.int (x1 - x7)), (.int x3), (.long (v3 * v4)), (.long x5)]) (I1 := I4) (T1 := T4) rfl ?_
        refine ev_callL rfl rfl rfl (fun v5 I5 T5 hq => ?_) (fun x I1 T1 hq => ?_) hq
        · refine ev_seq 5 (ip' := 29) (loc' := [none, some (.int x1), none, some (.int x3), some (.int x4), some (.long (x5 + ((v3 * v4) * v5))), none, some (.int (x7 + 1)), none, none, none]) (st' := []) (I1 := I5) (T1 := T5) rfl ?_
          exact hq
        · exact hq.elim
      · exact hq.elim
    · exact hq.elim
def t_X_steady_24 (E : MEnv) (I : II) (T : TT) (Q : QQ) (x1 : Int32) (x2 : Int32) (x3 : Int32) (x4 : Int32) (y1 : Int32) : Prop := ev E 28 0 [some (.ref 0), some (.int y1)] [] I T (KV (fun I1 T1 => t_X_steady_29 E I1 T1 Q x1 x3 x4 0 x2) (fun x I1 T1 => Q (.inr x) I1 T1))
theorem s_X_steady_24 {E : MEnv} {I : II} {T : TT} {Q : QQ} {x1 : Int32} {x2 : Int32} {x3 : Int32} {x4 : Int32} {y1 : Int32} (hq : t_X_steady_24 E I T Q x1 x2 x3 x4 y1) : ev E 270 24 [none, some (.int x1), some (.int x2), some (.int x3), some (.int x4), none, none, none, none, none, none] [(.int y1), (.ref 0)] I T Q := by
  unfold t_X_steady_24 at hq
  refine ev_callV rfl rfl rfl (fun I1 T1 hq => ?_) (fun x I1 T1 hq => ?_) hq
  · refine ev_seq 4 (ip' := 29) (loc' := [none, some (.int x1), some (.int x2), some (.int x3), some (.int x4), some (.long 0), none, some (.int x2), none, none, none]) (st' := []) (I1 := I1) (T1 := T1) rfl ?_
    refine ev_fg [true, true, false, true, true, true, true, true, true, true, true] (loc' := [none, some (.int x1), none, some (.int x3), some (.int x4), some (.long 0), none, some (.int x2), none, none, none]) rfl ?_
    exact s_X_steady_29 (T := T1) hq
  · exact ⟨by decide, hq⟩
def t_X_steady_23 (E : MEnv) (I : II) (T : TT) (Q : QQ) (x1 : Int32) (x2 : Int32) (x3 : Int32) (x4 : Int32) : Prop := t_X_steady_24 E I T Q x1 x2 x3 x4 0
theorem s_X_steady_23 {E : MEnv} {I : II} {T : TT} {Q : QQ} {x1 : Int32} {x2 : Int32} {x3 : Int32} {x4 : Int32} (hq : t_X_steady_23 E I T Q x1 x2 x3 x4) : ev E 270 23 [none, some (.int x1), some (.int x2), some (.int x3), some (.int x4), none, none, none, none, none, none] [(.ref 0)] I T Q := by
  unfold t_X_steady_23 at hq
  refine ev_seq 1 (ip' := 24) (loc' := [none, some (.int x1), some (.int x2), some (.int x3), some (.int x4), none, none, none, none, none, none]) (st' := [(.int 0), (.ref 0)]) (I1 := I) (T1 := T) rfl ?_
  exact s_X_steady_24 (T := T) hq
def t_X_steady_0 (E : MEnv) (I : II) (T : TT) (Q : QQ) (x1 : Int32) (x2 : Int32) (x3 : Int32) (x4 : Int32) : Prop := ev E 27 0 [some (.int x1), some (.int 0), some (.int 12)] [] I T (KI (fun v1 I1 T1 => (v1 = 0 → (t_X_steady_23 E I1 T1 Q x1 x2 x3 x4)) ∧ (¬ (v1 = 0) → (ev E 27 0 [some (.int x2), some (.int 0), some (.int 13)] [] I1 T1 (KI (fun v2 I2 T2 => (v2 = 0 → (t_X_steady_23 E I2 T2 Q x1 x2 x3 x4)) ∧ (¬ (v2 = 0) → (ev E 27 0 [some (.int x3), some (.int 0), some (.int 16)] [] I2 T2 (KI (fun v3 I3 T3 => (v3 = 0 → (t_X_steady_23 E I3 T3 Q x1 x2 x3 x4)) ∧ (¬ (v3 = 0) → (ev E 27 0 [some (.int x4), some (.int 0), some (.int 1)] [] I3 T3 (KI (fun v4 I4 T4 => (v4 = 0 → (t_X_steady_23 E I4 T4 Q x1 x2 x3 x4)) ∧ (¬ (v4 = 0) → (t_X_steady_24 E I4 T4 Q x1 x2 x3 x4 1))) (fun _ _ _ => False))))) (fun _ _ _ => False))))) (fun _ _ _ => False))))) (fun _ _ _ => False))
theorem s_X_steady_0 {E : MEnv} {I : II} {T : TT} {Q : QQ} {x1 : Int32} {x2 : Int32} {x3 : Int32} {x4 : Int32} (hq : t_X_steady_0 E I T Q x1 x2 x3 x4) : ev E 270 0 [some (.ref 0), some (.int x1), some (.int x2), some (.int x3), some (.int x4), none, none, none, none, none, none] [] I T Q := by
  unfold t_X_steady_0 at hq
  refine ev_seq 4 (ip' := 4) (loc' := [some (.ref 0), some (.int x1), some (.int x2), some (.int x3), some (.int x4), none, none, none, none, none, none]) (st' := [(.int 12), (.int 0), (.int x1), (.ref 0)]) (I1 := I) (T1 := T) rfl ?_
  refine ev_callI rfl rfl rfl (fun v1 I1 T1 hq => ?_) (fun x I1 T1 hq => ?_) hq
  · refine ev_br (p := v1 = 0) (a := 23) (b := 6) (st' := [(.ref 0)]) inferInstance rfl rfl (fun hb => ?_) (fun hb => ?_)
    · have hq := hq.1 hb
      refine ev_fg [false, true, true, true, true, true, true, true, true, true, true] (loc' := [none, some (.int x1), some (.int x2), some (.int x3), some (.int x4), none, none, none, none, none, none]) rfl ?_
      exact s_X_steady_23 (T := T1) hq
    · have hq := hq.2 hb
      refine ev_seq 3 (ip' := 9) (loc' := [some (.ref 0), some (.int x1), some (.int x2), some (.int x3), some (.int x4), none, none, none, none, none, none]) (st' := [(.int 13), (.int 0), (.int x2), (.ref 0)]) (I1 := I1) (T1 := T1) rfl ?_
      refine ev_callI rfl rfl rfl (fun v2 I2 T2 hq => ?_) (fun x I1 T1 hq => ?_) hq
      · refine ev_br (p := v2 = 0) (a := 23) (b := 11) (st' := [(.ref 0)]) inferInstance rfl rfl (fun hb => ?_) (fun hb => ?_)
        · have hq := hq.1 hb
          refine ev_fg [false, true, true, true, true, true, true, true, true, true, true] (loc' := [none, some (.int x1), some (.int x2), some (.int x3), some (.int x4), none, none, none, none, none, none]) rfl ?_
          exact s_X_steady_23 (T := T2) hq
        · have hq := hq.2 hb
          refine ev_seq 3 (ip' := 14) (loc' := [some (.ref 0), some (.int x1), some (.int x2), some (.int x3), some (.int x4), none, none, none, none, none, none]) (st' := [(.int 16), (.int 0), (.int x3), (.ref 0)]) (I1 := I2) (T1 := T2) rfl ?_
          refine ev_callI rfl rfl rfl (fun v3 I3 T3 hq => ?_) (fun x I1 T1 hq => ?_) hq
          · refine ev_br (p := v3 = 0) (a := 23) (b := 16) (st' := [(.ref 0)]) inferInstance rfl rfl (fun hb => ?_) (fun hb => ?_)
            · have hq := hq.1 hb
              refine ev_fg [false, true, true, true, true, true, true, true, true, true, true] (loc' := [none, some (.int x1), some (.int x2), some (.int x3), some (.int x4), none, none, none, none, none, none]) rfl ?_
              exact s_X_steady_23 (T := T3) hq
            · have hq := hq.2 hb
              refine ev_seq 3 (ip' := 19) (loc' := [some (.ref 0), some (.int x1), some (.int x2), some (.int x3), some (.int x4), none, none, none, none, none, none]) (st' := [(.int 1), (.int 0), (.int x4), (.ref 0)]) (I1 := I3) (T1 := T3) rfl ?_
              refine ev_callI rfl rfl rfl (fun v4 I4 T4 hq => ?_) (fun x I1 T1 hq => ?_) hq
              · refine ev_br (p := v4 = 0) (a := 23) (b := 21) (st' := [(.ref 0)]) inferInstance rfl rfl (fun hb => ?_) (fun hb => ?_)
                · have hq := hq.1 hb
                  refine ev_fg [false, true, true, true, true, true, true, true, true, true, true] (loc' := [none, some (.int x1), some (.int x2), some (.int x3), some (.int x4), none, none, none, none, none, none]) rfl ?_
                  exact s_X_steady_23 (T := T4) hq
                · have hq := hq.2 hb
                  refine ev_seq 2 (ip' := 24) (loc' := [some (.ref 0), some (.int x1), some (.int x2), some (.int x3), some (.int x4), none, none, none, none, none, none]) (st' := [(.int 1), (.ref 0)]) (I1 := I4) (T1 := T4) rfl ?_
                  refine ev_fg [false, true, true, true, true, true, true, true, true, true, true] (loc' := [none, some (.int x1), some (.int x2), some (.int x3), some (.int x4), none, none, none, none, none, none]) rfl ?_
                  exact s_X_steady_24 (T := T4) hq
              · exact hq.elim
          · exact hq.elim
      · exact hq.elim
  · exact hq.elim
/-- FeltHarness.swap(I)I -/
def t_X_swap_61 (E : MEnv) (I : II) (T : TT) (Q : QQ) (y0 : Int32) : Prop := Q (.inl (some (.int y0))) I T
theorem s_X_swap_61 {E : MEnv} {I : II} {T : TT} {Q : QQ} {y0 : Int32} (hq : t_X_swap_61 E I T Q y0) : ev E 244 61 [none, none, none, none, none, none, none] [(.int y0)] I T Q := by
  unfold t_X_swap_61 at hq
  exact ev_ret rfl rfl hq
def t_X_swap_58 (E : MEnv) (I : II) (T : TT) (Q : QQ) (x3 : Int32) : Prop := t_X_swap_61 E I T Q x3
theorem s_X_swap_58 {E : MEnv} {I : II} {T : TT} {Q : QQ} {x3 : Int32} (hq : t_X_swap_58 E I T Q x3) : ev E 244 58 [none, none, none, some (.int x3), none, none, none] [] I T Q := by
  unfold t_X_swap_58 at hq
  refine ev_seq 2 (ip' := 61) (loc' := [none, none, none, some (.int x3), none, none, none]) (st' := [(.int x3)]) (I1 := I) (T1 := T) rfl ?_
  refine ev_fg [true, true, true, false, true, true, true] (loc' := [none, none, none, none, none, none, none]) rfl ?_
  exact s_X_swap_61 (T := T) hq
def t_X_swap_49 (E : MEnv) (I : II) (T : TT) (Q : QQ) (x1 : Int32) (x2 : Int32) (x3 : Int32) (x4 : Int32) (x5 : Int32) : Prop := ev E 244 21 [some (.ref 0), some (.int x1), some (.int x2), some (.int x3), some (.int x4), some (.int (x5 + 1)), none] [] I T Q
theorem s_X_swap_49 {E : MEnv} {I : II} {T : TT} {Q : QQ} {x1 : Int32} {x2 : Int32} {x3 : Int32} {x4 : Int32} {x5 : Int32} (hq : t_X_swap_49 E I T Q x1 x2 x3 x4 x5) : ev E 244 49 [some (.ref 0), some (.int x1), some (.int x2), some (.int x3), some (.int x4), some (.int x5), none] [] I T Q := by
  unfold t_X_swap_49 at hq
  refine ev_seq 2 (ip' := 21) (loc' := [some (.ref 0), some (.int x1), some (.int x2), some (.int x3), some (.int x4), some (.int (x5 + 1)), none]) (st' := []) (I1 := I) (T1 := T) rfl ?_
  exact hq
def t_X_swap_21 (E : MEnv) (I : II) (T : TT) (Q : QQ) (x1 : Int32) (x2 : Int32) (x3 : Int32) (x4 : Int32) (x5 : Int32) : Prop := (4 ≤ x5 → (ev E 244 14 [some (.ref 0), some (.int x1), some (.int x2), some (.int x3), some (.int (x4 + 1)), none, none] [] I T Q)) ∧ (¬ (4 ≤ x5) → (ev E 212 0 [some (.ref 30), some (.ref 28)] [] I T (KV (fun I1 T1 => ev E 245 0 [some (.ref 30), some (.int x4), some (.int x5), none, none] [] I1 T1 (KV (fun I2 T2 => ev E 183 0 [some (.ref 30)] [] I2 T2 (KI (fun v3 I3 T3 => (x2 ≤ v3 → (t_X_swap_49 E I3 T3 Q x1 x2 x3 x4 x5)) ∧ (¬ (x2 ≤ v3) → (t_X_swap_49 E I3 T3 Q x1 v3 ((10 * x4) + x5) x4 x5))) (fun x I1 T1 => Q (.inr x) I1 T1))) (fun x I1 T1 => Q (.inr x) I1 T1))) (fun x I1 T1 => Q (.inr x) I1 T1))))
theorem s_X_swap_21 {E : MEnv} {I : II} {T : TT} {Q : QQ} {x1 : Int32} {x2 : Int32} {x3 : Int32} {x4 : Int32} {x5 : Int32} (hq : t_X_swap_21 E I T Q x1 x2 x3 x4 x5) : ev E 244 21 [some (.ref 0), some (.int x1), some (.int x2), some (.int x3), some (.int x4), some (.int x5), none] [] I T Q := by
  unfold t_X_swap_21 at hq
  refine ev_seq 2 (ip' := 23) (loc' := [some (.ref 0), some (.int x1), some (.int x2), some (.int x3), some (.int x4), some (.int x5), none]) (st' := [(.int 4), (.int x5)]) (I1 := I) (T1 := T) rfl ?_
  refine ev_br (p := 4 ≤ x5) (a := 51) (b := 24) (st' := []) inferInstance rfl rfl (fun hb => ?_) (fun hb => ?_)
  · have hq := hq.1 hb
    refine ev_seq 2 (ip' := 14) (loc' := [some (.ref 0), some (.int x1), some (.int x2), some (.int x3), some (.int (x4 + 1)), some (.int x5), none]) (st' := []) (I1 := I) (T1 := T) rfl ?_
    refine ev_fg [true, true, true, true, true, false, true] (loc' := [some (.ref 0), some (.int x1), some (.int x2), some (.int x3), some (.int (x4 + 1)), none, none]) rfl ?_
    exact hq
  · have hq := hq.2 hb
    refine ev_seq 4 (ip' := 28) (loc' := [some (.ref 0), some (.int x1), some (.int x2), some (.int x3), some (.int x4), some (.int x5), none]) (st' := [(.ref 28), (.ref 30)]) (I1 := I) (T1 := T) rfl ?_
    refine ev_callV rfl rfl rfl (fun I1 T1 hq => ?_) (fun x I1 T1 hq => ?_) hq
    · refine ev_seq 4 (ip' := 33) (loc' := [some (.ref 0), some (.int x1), some (.int x2), some (.int x3), some (.int x4), some (.int x5), none]) (st' := [(.int x5), (.int x4), (.ref 30)]) (I1 := I1) (T1 := T1) rfl ?_
      refine ev_callV rfl rfl rfl (fun I2 T2 hq => ?_) (fun x I1 T1 hq => ?_) hq
      · refine ev_seq 2 (ip' := 36) (loc' := [some (.ref 0), some (.int x1), some (.int x2), some (.int x3), some (.int x4), some (.int x5), none]) (st' := [(.ref 30)]) (I1 := I2) (T1 := T2) rfl ?_
        refine ev_callI rfl rfl rfl (fun v3 I3 T3 hq => ?_) (fun x I1 T1 hq => ?_) hq
        · refine ev_seq 3 (ip' := 40) (loc' := [some (.ref 0), some (.int x1), some (.int x2), some (.int x3), some (.int x4), some (.int x5), some (.int v3)]) (st' := [(.int x2), (.int v3)]) (I1 := I3) (T1 := T3) rfl ?_
          refine ev_br (p := x2 ≤ v3) (a := 49) (b := 41) (st' := []) inferInstance rfl rfl (fun hb => ?_) (fun hb => ?_)
          · have hq := hq.1 hb
            refine ev_fg [true, true, true, true, true, true, false] (loc' := [some (.ref 0), some (.int x1), some (.int x2), some (.int x3), some (.int x4), some (.int x5), none]) rfl ?_
            exact s_X_swap_49 (T := T3) hq
          · have hq := hq.2 hb
            refine ev_seq 8 (ip' := 49) (loc' := [some (.ref 0), some (.int x1), some (.int v3), some (.int ((10 * x4) + x5)), some (.int x4), some (.int x5), some (.int v3)]) (st' := []) (I1 := I3) (T1 := T3) rfl ?_
            refine ev_fg [true, true, true, true, true, true, false] (loc' := [some (.ref 0), some (.int x1), some (.int v3), some (.int ((10 * x4) + x5)), some (.int x4), some (.int x5), none]) rfl ?_
            exact s_X_swap_49 (T := T3) hq
        · exact ⟨by decide, hq⟩
      · exact ⟨by decide, hq⟩
    · exact ⟨by decide, hq⟩
def t_X_swap_14 (E : MEnv) (I : II) (T : TT) (Q : QQ) (x1 : Int32) (x2 : Int32) (x3 : Int32) (x4 : Int32) : Prop := (4 ≤ x4 → ((x1 = 0 → (t_X_swap_58 E I T Q x3)) ∧ (¬ (x1 = 0) → ((x3 = (-1) → (t_X_swap_58 E I T Q x3)) ∧ (¬ (x3 = (-1)) → (t_X_swap_61 E I T Q x2)))))) ∧ (¬ (4 ≤ x4) → (t_X_swap_21 E I T Q x1 x2 x3 x4 (x4 + 1)))
theorem s_X_swap_14 {E : MEnv} {I : II} {T : TT} {Q : QQ} {x1 : Int32} {x2 : Int32} {x3 : Int32} {x4 : Int32} (hq : t_X_swap_14 E I T Q x1 x2 x3 x4) : ev E 244 14 [some (.ref 0), some (.int x1), some (.int x2), some (.int x3), some (.int x4), none, none] [] I T Q := by
  unfold t_X_swap_14 at hq
  refine ev_seq 2 (ip' := 16) (loc' := [some (.ref 0), some (.int x1), some (.int x2), some (.int x3), some (.int x4), none, none]) (st' := [(.int 4), (.int x4)]) (I1 := I) (T1 := T) rfl ?_
  refine ev_br (p := 4 ≤ x4) (a := 53) (b := 17) (st' := []) inferInstance rfl rfl (fun hb => ?_) (fun hb => ?_)
  · have hq := hq.1 hb
    refine ev_seq 1 (ip' := 54) (loc' := [some (.ref 0), some (.int x1), some (.int x2), some (.int x3), some (.int x4), none, none]) (st' := [(.int x1)]) (I1 := I) (T1 := T) rfl ?_
    refine ev_br (p := x1 = 0) (a := 58) (b := 55) (st' := []) inferInstance rfl rfl (fun hb => ?_) (fun hb => ?_)
    · have hq := hq.1 hb
      refine ev_fg [false, false, false, true, false, true, true] (loc' := [none, none, none, some (.int x3), none, none, none]) rfl ?_
      exact s_X_swap_58 (T := T) hq
    · have hq := hq.2 hb
      refine ev_seq 2 (ip' := 57) (loc' := [some (.ref 0), some (.int x1), some (.int x2), some (.int x3), some (.int x4), none, none]) (st' := [(.int (-1)), (.int x3)]) (I1 := I) (T1 := T) rfl ?_
      refine ev_br (p := x3 = (-1)) (a := 58) (b := 60) (st' := []) inferInstance rfl rfl (fun hb => ?_) (fun hb => ?_)
      · have hq := hq.1 hb
        refine ev_fg [false, false, false, true, false, true, true] (loc' := [none, none, none, some (.int x3), none, none, none]) rfl ?_
        exact s_X_swap_58 (T := T) hq
      · have hq := hq.2 hb
        refine ev_seq 1 (ip' := 61) (loc' := [some (.ref 0), some (.int x1), some (.int x2), some (.int x3), some (.int x4), none, none]) (st' := [(.int x2)]) (I1 := I) (T1 := T) rfl ?_
        refine ev_fg [false, false, false, false, false, true, true] (loc' := [none, none, none, none, none, none, none]) rfl ?_
        exact s_X_swap_61 (T := T) hq
  · have hq := hq.2 hb
    refine ev_seq 4 (ip' := 21) (loc' := [some (.ref 0), some (.int x1), some (.int x2), some (.int x3), some (.int x4), some (.int (x4 + 1)), none]) (st' := []) (I1 := I) (T1 := T) rfl ?_
    exact s_X_swap_21 (T := T) hq
def t_X_swap_0 (E : MEnv) (I : II) (T : TT) (Q : QQ) (x1 : Int32) : Prop := ev E 27 0 [some (.int x1), some (.int 0), some (.int 1)] [] I T (KI (fun v1 I1 T1 => ev E 28 0 [some (.ref 0), some (.int v1)] [] I1 T1 (KV (fun I2 T2 => ev E 183 0 [some (.ref 28)] [] I2 T2 (KI (fun v3 I3 T3 => t_X_swap_14 E I3 T3 Q x1 v3 (-1) 0) (fun x I1 T1 => Q (.inr x) I1 T1))) (fun x I1 T1 => Q (.inr x) I1 T1))) (fun _ _ _ => False))
theorem s_X_swap_0 {E : MEnv} {I : II} {T : TT} {Q : QQ} {x1 : Int32} (hq : t_X_swap_0 E I T Q x1) : ev E 244 0 [some (.ref 0), some (.int x1), none, none, none, none, none] [] I T Q := by
  unfold t_X_swap_0 at hq
  refine ev_seq 4 (ip' := 4) (loc' := [some (.ref 0), some (.int x1), none, none, none, none, none]) (st' := [(.int 1), (.int 0), (.int x1), (.ref 0)]) (I1 := I) (T1 := T) rfl ?_
  refine ev_callI rfl rfl rfl (fun v1 I1 T1 hq => ?_) (fun x I1 T1 hq => ?_) hq
  · refine ev_callV rfl rfl rfl (fun I2 T2 hq => ?_) (fun x I1 T1 hq => ?_) hq
    · refine ev_seq 2 (ip' := 8) (loc' := [some (.ref 0), some (.int x1), none, none, none, none, none]) (st' := [(.ref 28)]) (I1 := I2) (T1 := T2) rfl ?_
      refine ev_callI rfl rfl rfl (fun v3 I3 T3 hq => ?_) (fun x I1 T1 hq => ?_) hq
      · refine ev_seq 5 (ip' := 14) (loc' := [some (.ref 0), some (.int x1), some (.int v3), some (.int (-1)), some (.int 0), none, none]) (st' := []) (I1 := I3) (T1 := T3) rfl ?_
        exact s_X_swap_14 (T := T3) hq
      · exact ⟨by decide, hq⟩
    · exact ⟨by decide, hq⟩
  · exact hq.elim
/-- FeltHarness.team(II)I -/
def t_X_team_24 (E : MEnv) (I : II) (T : TT) (Q : QQ) (y0 : Int32) : Prop := Q (.inl (some (.int y0))) I T
theorem s_X_team_24 {E : MEnv} {I : II} {T : TT} {Q : QQ} {y0 : Int32} (hq : t_X_team_24 E I T Q y0) : ev E 217 24 [none, none, none] [(.int y0)] I T Q := by
  unfold t_X_team_24 at hq
  exact ev_ret rfl rfl hq
def t_X_team_0 (E : MEnv) (I : II) (T : TT) (Q : QQ) (x1 : Int32) (x2 : Int32) : Prop := ev E 193 0 [some (.ref 0), some (.int x1)] [] I T (KV (fun I1 T1 => ev E 27 0 [some (.int x2), some (.int 0), some (.int 1)] [] I1 T1 (KI (fun v2 I2 T2 => ev E 28 0 [some (.ref 0), some (.int v2)] [] I2 T2 (KV (fun I3 T3 => (x2 = 0 → (ev E 218 0 [some (.ref 36), some (.ref 28), some (.int x1)] [] I3 T3 (KI (fun v4 I4 T4 => t_X_team_24 E I4 T4 Q v4) (fun x I1 T1 => Q (.inr x) I1 T1)))) ∧ (¬ (x2 = 0) → (ev E 223 0 [some (.ref 36), some (.ref 28), some (.int x1)] [] I3 T3 (KI (fun v5 I5 T5 => t_X_team_24 E I5 T5 Q v5) (fun x I1 T1 => Q (.inr x) I1 T1))))) (fun x I1 T1 => Q (.inr x) I1 T1))) (fun _ _ _ => False))) (fun x I1 T1 => Q (.inr x) I1 T1))
theorem s_X_team_0 {E : MEnv} {I : II} {T : TT} {Q : QQ} {x1 : Int32} {x2 : Int32} (hq : t_X_team_0 E I T Q x1 x2) : ev E 217 0 [some (.ref 0), some (.int x1), some (.int x2)] [] I T Q := by
  unfold t_X_team_0 at hq
  refine ev_seq 2 (ip' := 2) (loc' := [some (.ref 0), some (.int x1), some (.int x2)]) (st' := [(.int x1), (.ref 0)]) (I1 := I) (T1 := T) rfl ?_
  refine ev_callV rfl rfl rfl (fun I1 T1 hq => ?_) (fun x I1 T1 hq => ?_) hq
  · refine ev_seq 4 (ip' := 7) (loc' := [some (.ref 0), some (.int x1), some (.int x2)]) (st' := [(.int 1), (.int 0), (.int x2), (.ref 0)]) (I1 := I1) (T1 := T1) rfl ?_
    refine ev_callI rfl rfl rfl (fun v2 I2 T2 hq => ?_) (fun x I1 T1 hq => ?_) hq
    · refine ev_callV rfl rfl rfl (fun I3 T3 hq => ?_) (fun x I1 T1 hq => ?_) hq
      · refine ev_seq 1 (ip' := 10) (loc' := [some (.ref 0), some (.int x1), some (.int x2)]) (st' := [(.int x2)]) (I1 := I3) (T1 := T3) rfl ?_
        refine ev_br (p := x2 = 0) (a := 11) (b := 18) (st' := []) inferInstance rfl rfl (fun hb => ?_) (fun hb => ?_)
        · have hq := hq.1 hb
          refine ev_seq 5 (ip' := 16) (loc' := [some (.ref 0), some (.int x1), some (.int x2)]) (st' := [(.int x1), (.ref 28), (.ref 36)]) (I1 := I3) (T1 := T3) rfl ?_
          refine ev_callI rfl rfl rfl (fun v4 I4 T4 hq => ?_) (fun x I1 T1 hq => ?_) hq
          · refine ev_seq 1 (ip' := 24) (loc' := [some (.ref 0), some (.int x1), some (.int x2)]) (st' := [(.int v4)]) (I1 := I4) (T1 := T4) rfl ?_
            refine ev_fg [false, false, false] (loc' := [none, none, none]) rfl ?_
            exact s_X_team_24 (T := T4) hq
          · exact ⟨by decide, hq⟩
        · have hq := hq.2 hb
          refine ev_seq 5 (ip' := 23) (loc' := [some (.ref 0), some (.int x1), some (.int x2)]) (st' := [(.int x1), (.ref 28), (.ref 36)]) (I1 := I3) (T1 := T3) rfl ?_
          refine ev_callI rfl rfl rfl (fun v5 I5 T5 hq => ?_) (fun x I1 T1 hq => ?_) hq
          · refine ev_fg [false, false, false] (loc' := [none, none, none]) rfl ?_
            exact s_X_team_24 (T := T5) hq
          · exact ⟨by decide, hq⟩
      · exact ⟨by decide, hq⟩
    · exact hq.elim
  · exact ⟨by decide, hq⟩
/-- FeltHarness.throughInSeason()I -/
def t_X_throughInSeason_0 (E : MEnv) (I : II) (T : TT) (Q : QQ) : Prop := ev E 184 0 [some (.ref 30), some (.int 2)] [] I T (KI (fun v1 I1 T1 => ev E 184 0 [some (.ref 28), some (.int 2)] [] I1 T1 (KI (fun v2 I2 T2 => Q (.inl (some (.int (v1 - v2)))) I2 T2) (fun x I1 T1 => Q (.inr x) I1 T1))) (fun x I1 T1 => Q (.inr x) I1 T1))
theorem s_X_throughInSeason_0 {E : MEnv} {I : II} {T : TT} {Q : QQ} (hq : t_X_throughInSeason_0 E I T Q) : ev E 316 0 [some (.ref 0)] [] I T Q := by
  unfold t_X_throughInSeason_0 at hq
  refine ev_seq 3 (ip' := 3) (loc' := [some (.ref 0)]) (st' := [(.int 2), (.ref 30)]) (I1 := I) (T1 := T) rfl ?_
  refine ev_callI rfl rfl rfl (fun v1 I1 T1 hq => ?_) (fun x I1 T1 hq => ?_) hq
  · refine ev_seq 3 (ip' := 7) (loc' := [some (.ref 0)]) (st' := [(.int 2), (.ref 28), (.int v1)]) (I1 := I1) (T1 := T1) rfl ?_
    refine ev_callI rfl rfl rfl (fun v2 I2 T2 hq => ?_) (fun x I1 T1 hq => ?_) hq
    · refine ev_seq 1 (ip' := 9) (loc' := [some (.ref 0)]) (st' := [(.int (v1 - v2))]) (I1 := I2) (T1 := T2) rfl ?_
      exact ev_ret rfl rfl hq
    · exact ⟨by decide, hq⟩
  · exact ⟨by decide, hq⟩
/-- FeltHarness.thumb(III)I -/
def t_X_thumb_77 (E : MEnv) (I : II) (T : TT) (Q : QQ) (y0 : Int32) : Prop := Q (.inl (some (.int y0))) I T
theorem s_X_thumb_77 {E : MEnv} {I : II} {T : TT} {Q : QQ} {y0 : Int32} (hq : t_X_thumb_77 E I T Q y0) : ev E 263 77 [none, none, none, none, none, none, none, none, none] [(.int y0)] I T Q := by
  unfold t_X_thumb_77 at hq
  exact ev_ret rfl rfl hq
def t_X_thumb_63 (E : MEnv) (I : II) (T : TT) (Q : QQ) (x1 : Int32) (x2 : Int32) (x3 : Int32) (x4 : Int32) (x5 : Int32) (x6 : Int32) (x7 : Int32) (x8 : Int32) : Prop := ev E 263 33 [none, some (.int x1), some (.int x2), some (.int x3), some (.int x4), some (.int x5), some (.int x6), some (.int x7), some (.int (x8 + 1))] [] I T Q
theorem s_X_thumb_63 {E : MEnv} {I : II} {T : TT} {Q : QQ} {x1 : Int32} {x2 : Int32} {x3 : Int32} {x4 : Int32} {x5 : Int32} {x6 : Int32} {x7 : Int32} {x8 : Int32} (hq : t_X_thumb_63 E I T Q x1 x2 x3 x4 x5 x6 x7 x8) : ev E 263 63 [none, some (.int x1), some (.int x2), some (.int x3), some (.int x4), some (.int x5), some (.int x6), some (.int x7), some (.int x8)] [] I T Q := by
  unfold t_X_thumb_63 at hq
  refine ev_seq 2 (ip' := 33) (loc' := [none, some (.int x1), some (.int x2), some (.int x3), some (.int x4), some (.int x5), some (.int x6), some (.int x7), some (.int (x8 + 1))]) (st' := []) (I1 := I) (T1 := T) rfl ?_
  exact hq
def t_X_thumb_62 (E : MEnv) (I : II) (T : TT) (Q : QQ) (x1 : Int32) (x2 : Int32) (x3 : Int32) (x4 : Int32) (x5 : Int32) (x6 : Int32) (x7 : Int32) (x8 : Int32) : Prop := t_X_thumb_63 E I T Q x1 x2 x3 (x4 + 1) x5 x6 x7 x8
theorem s_X_thumb_62 {E : MEnv} {I : II} {T : TT} {Q : QQ} {x1 : Int32} {x2 : Int32} {x3 : Int32} {x4 : Int32} {x5 : Int32} {x6 : Int32} {x7 : Int32} {x8 : Int32} (hq : t_X_thumb_62 E I T Q x1 x2 x3 x4 x5 x6 x7 x8) : ev E 263 62 [none, some (.int x1), some (.int x2), some (.int x3), some (.int x4), some (.int x5), some (.int x6), some (.int x7), some (.int x8)] [] I T Q := by
  unfold t_X_thumb_62 at hq
  refine ev_seq 1 (ip' := 63) (loc' := [none, some (.int x1), some (.int x2), some (.int x3), some (.int (x4 + 1)), some (.int x5), some (.int x6), some (.int x7), some (.int x8)]) (st' := []) (I1 := I) (T1 := T) rfl ?_
  exact s_X_thumb_63 (T := T) hq
def t_X_thumb_33 (E : MEnv) (I : II) (T : TT) (Q : QQ) (x1 : Int32) (x2 : Int32) (x3 : Int32) (x4 : Int32) (x5 : Int32) (x6 : Int32) (x7 : Int32) (x8 : Int32) : Prop := (1 < x8 → (ev E 263 28 [none, some (.int x1), some (.int x2), some (.int x3), some (.int x4), some (.int x5), some (.int x6), some (.int (x7 + 1)), none] [] I T Q)) ∧ (¬ (1 < x8) → (ev E 264 0 [some (.int x1), some (.int x2), some (.int x7), some (.int x8)] [] I T (KI (fun v1 I1 T1 => (v1 = 0 → (t_X_thumb_63 E I1 T1 Q x1 x2 x3 x4 x5 x6 x7 x8)) ∧ (¬ (v1 = 0) → ((x4 = 0 → (ev E 265 0 [some (.int x1), some (.int x2), some (.int x7), some (.int x8)] [] I1 T1 (KI (fun v2 I2 T2 => ev E 265 0 [some (.int x1), some (.int x2), some (.int x8), some (.int x7)] [] I2 T2 (KI (fun v3 I3 T3 => t_X_thumb_62 E I3 T3 Q x1 x2 x3 x4 ((10 * x7) + x8) (v2 + v3) x7 x8) (fun _ _ _ => False))) (fun _ _ _ => False)))) ∧ (¬ (x4 = 0) → (t_X_thumb_62 E I1 T1 Q x1 x2 x3 x4 x5 x6 x7 x8))))) (fun _ _ _ => False))))
theorem s_X_thumb_33 {E : MEnv} {I : II} {T : TT} {Q : QQ} {x1 : Int32} {x2 : Int32} {x3 : Int32} {x4 : Int32} {x5 : Int32} {x6 : Int32} {x7 : Int32} {x8 : Int32} (hq : t_X_thumb_33 E I T Q x1 x2 x3 x4 x5 x6 x7 x8) : ev E 263 33 [none, some (.int x1), some (.int x2), some (.int x3), some (.int x4), some (.int x5), some (.int x6), some (.int x7), some (.int x8)] [] I T Q := by
  unfold t_X_thumb_33 at hq
  refine ev_seq 2 (ip' := 35) (loc' := [none, some (.int x1), some (.int x2), some (.int x3), some (.int x4), some (.int x5), some (.int x6), some (.int x7), some (.int x8)]) (st' := [(.int 1), (.int x8)]) (I1 := I) (T1 := T) rfl ?_
  refine ev_br (p := 1 < x8) (a := 65) (b := 36) (st' := []) inferInstance rfl rfl (fun hb => ?_) (fun hb => ?_)
  · have hq := hq.1 hb
    refine ev_seq 2 (ip' := 28) (loc' := [none, some (.int x1), some (.int x2), some (.int x3), some (.int x4), some (.int x5), some (.int x6), some (.int (x7 + 1)), some (.int x8)]) (st' := []) (I1 := I) (T1 := T) rfl ?_
    refine ev_fg [true, true, true, true, true, true, true, true, false] (loc' := [none, some (.int x1), some (.int x2), some (.int x3), some (.int x4), some (.int x5), some (.int x6), some (.int (x7 + 1)), none]) rfl ?_
    exact hq
  · have hq := hq.2 hb
    refine ev_seq 4 (ip' := 40) (loc' := [none, some (.int x1), some (.int x2), some (.int x3), some (.int x4), some (.int x5), some (.int x6), some (.int x7), some (.int x8)]) (st' := [(.int x8), (.int x7), (.int x2), (.int x1)]) (I1 := I) (T1 := T) rfl ?_
    refine ev_callI rfl rfl rfl (fun v1 I1 T1 hq => ?_) (fun x I1 T1 hq => ?_) hq
    · refine ev_br (p := v1 = 0) (a := 63) (b := 42) (st' := []) inferInstance rfl rfl (fun hb => ?_) (fun hb => ?_)
      · have hq := hq.1 hb
        exact s_X_thumb_63 (T := T1) hq
      · have hq := hq.2 hb
        refine ev_seq 1 (ip' := 43) (loc' := [none, some (.int x1), some (.int x2), some (.int x3), some (.int x4), some (.int x5), some (.int x6), some (.int x7), some (.int x8)]) (st' := [(.int x4)]) (I1 := I1) (T1 := T1) rfl ?_
        refine ev_br (p := x4 = 0) (a := 44) (b := 62) (st' := []) inferInstance rfl rfl (fun hb => ?_) (fun hb => ?_)
        · have hq := hq.1 hb
          refine ev_seq 10 (ip' := 54) (loc' := [none, some (.int x1), some (.int x2), some (.int x3), some (.int x4), some (.int ((10 * x7) + x8)), some (.int x6), some (.int x7), some (.int x8)]) (st' := [(.int x8), (.int x7), (.int x2), (.int x1)]) (I1 := I1) (T1 := T1) rfl ?_
          refine ev_callI rfl rfl rfl (fun v2 I2 T2 hq => ?_) (fun x I1 T1 hq => ?_) hq
          · refine ev_seq 4 (ip' := 59) (loc' := [none, some (.int x1), some (.int x2), some (.int x3), some (.int x4), some (.int ((10 * x7) + x8)), some (.int x6), some (.int x7), some (.int x8)]) (st' := [(.int x7), (.int x8), (.int x2), (.int x1), (.int v2)]) (I1 := I2) (T1 := T2) rfl ?_
            refine ev_callI rfl rfl rfl (fun v3 I3 T3 hq => ?_) (fun x I1 T1 hq => ?_) hq
            · refine ev_seq 2 (ip' := 62) (loc' := [none, some (.int x1), some (.int x2), some (.int x3), some (.int x4), some (.int ((10 * x7) + x8)), some (.int (v2 + v3)), some (.int x7), some (.int x8)]) (st' := []) (I1 := I3) (T1 := T3) rfl ?_
              exact s_X_thumb_62 (T := T3) hq
            · exact hq.elim
          · exact hq.elim
        · have hq := hq.2 hb
          exact s_X_thumb_62 (T := T1) hq
    · exact hq.elim
def t_X_thumb_28 (E : MEnv) (I : II) (T : TT) (Q : QQ) (x1 : Int32) (x2 : Int32) (x3 : Int32) (x4 : Int32) (x5 : Int32) (x6 : Int32) (x7 : Int32) : Prop := (1 < x7 → ((x3 = 0 → (t_X_thumb_77 E I T Q x4)) ∧ (¬ (x3 = 0) → ((x3 = 1 → (t_X_thumb_77 E I T Q x5)) ∧ (¬ (x3 = 1) → (t_X_thumb_77 E I T Q x6)))))) ∧ (¬ (1 < x7) → (t_X_thumb_33 E I T Q x1 x2 x3 x4 x5 x6 x7 0))
theorem s_X_thumb_28 {E : MEnv} {I : II} {T : TT} {Q : QQ} {x1 : Int32} {x2 : Int32} {x3 : Int32} {x4 : Int32} {x5 : Int32} {x6 : Int32} {x7 : Int32} (hq : t_X_thumb_28 E I T Q x1 x2 x3 x4 x5 x6 x7) : ev E 263 28 [none, some (.int x1), some (.int x2), some (.int x3), some (.int x4), some (.int x5), some (.int x6), some (.int x7), none] [] I T Q := by
  unfold t_X_thumb_28 at hq
  refine ev_seq 2 (ip' := 30) (loc' := [none, some (.int x1), some (.int x2), some (.int x3), some (.int x4), some (.int x5), some (.int x6), some (.int x7), none]) (st' := [(.int 1), (.int x7)]) (I1 := I) (T1 := T) rfl ?_
  refine ev_br (p := 1 < x7) (a := 67) (b := 31) (st' := []) inferInstance rfl rfl (fun hb => ?_) (fun hb => ?_)
  · have hq := hq.1 hb
    refine ev_seq 1 (ip' := 68) (loc' := [none, some (.int x1), some (.int x2), some (.int x3), some (.int x4), some (.int x5), some (.int x6), some (.int x7), none]) (st' := [(.int x3)]) (I1 := I) (T1 := T) rfl ?_
    refine ev_br (p := x3 = 0) (a := 69) (b := 71) (st' := []) inferInstance rfl rfl (fun hb => ?_) (fun hb => ?_)
    · have hq := hq.1 hb
      refine ev_seq 2 (ip' := 77) (loc' := [none, some (.int x1), some (.int x2), some (.int x3), some (.int x4), some (.int x5), some (.int x6), some (.int x7), none]) (st' := [(.int x4)]) (I1 := I) (T1 := T) rfl ?_
      refine ev_fg [true, false, false, false, false, false, false, false, true] (loc' := [none, none, none, none, none, none, none, none, none]) rfl ?_
      exact s_X_thumb_77 (T := T) hq
    · have hq := hq.2 hb
      refine ev_seq 2 (ip' := 73) (loc' := [none, some (.int x1), some (.int x2), some (.int x3), some (.int x4), some (.int x5), some (.int x6), some (.int x7), none]) (st' := [(.int 1), (.int x3)]) (I1 := I) (T1 := T) rfl ?_
      refine ev_br (p := x3 = 1) (a := 74) (b := 76) (st' := []) inferInstance rfl rfl (fun hb => ?_) (fun hb => ?_)
      · have hq := hq.1 hb
        refine ev_seq 2 (ip' := 77) (loc' := [none, some (.int x1), some (.int x2), some (.int x3), some (.int x4), some (.int x5), some (.int x6), some (.int x7), none]) (st' := [(.int x5)]) (I1 := I) (T1 := T) rfl ?_
        refine ev_fg [true, false, false, false, false, false, false, false, true] (loc' := [none, none, none, none, none, none, none, none, none]) rfl ?_
        exact s_X_thumb_77 (T := T) hq
      · have hq := hq.2 hb
        refine ev_seq 1 (ip' := 77) (loc' := [none, some (.int x1), some (.int x2), some (.int x3), some (.int x4), some (.int x5), some (.int x6), some (.int x7), none]) (st' := [(.int x6)]) (I1 := I) (T1 := T) rfl ?_
        refine ev_fg [true, false, false, false, false, false, false, false, true] (loc' := [none, none, none, none, none, none, none, none, none]) rfl ?_
        exact s_X_thumb_77 (T := T) hq
  · have hq := hq.2 hb
    refine ev_seq 2 (ip' := 33) (loc' := [none, some (.int x1), some (.int x2), some (.int x3), some (.int x4), some (.int x5), some (.int x6), some (.int x7), some (.int 0)]) (st' := []) (I1 := I) (T1 := T) rfl ?_
    exact s_X_thumb_33 (T := T) hq
def t_X_thumb_19 (E : MEnv) (I : II) (T : TT) (Q : QQ) (x1 : Int32) (x2 : Int32) (x3 : Int32) (y1 : Int32) : Prop := ev E 28 0 [some (.ref 0), some (.int y1)] [] I T (KV (fun I1 T1 => t_X_thumb_28 E I1 T1 Q x1 x2 x3 0 (-1) 0 0) (fun x I1 T1 => Q (.inr x) I1 T1))
theorem s_X_thumb_19 {E : MEnv} {I : II} {T : TT} {Q : QQ} {x1 : Int32} {x2 : Int32} {x3 : Int32} {y1 : Int32} (hq : t_X_thumb_19 E I T Q x1 x2 x3 y1) : ev E 263 19 [none, some (.int x1), some (.int x2), some (.int x3), none, none, none, none, none] [(.int y1), (.ref 0)] I T Q := by
  unfold t_X_thumb_19 at hq
  refine ev_callV rfl rfl rfl (fun I1 T1 hq => ?_) (fun x I1 T1 hq => ?_) hq
  · refine ev_seq 8 (ip' := 28) (loc' := [none, some (.int x1), some (.int x2), some (.int x3), some (.int 0), some (.int (-1)), some (.int 0), some (.int 0), none]) (st' := []) (I1 := I1) (T1 := T1) rfl ?_
    exact s_X_thumb_28 (T := T1) hq
  · exact ⟨by decide, hq⟩
def t_X_thumb_18 (E : MEnv) (I : II) (T : TT) (Q : QQ) (x1 : Int32) (x2 : Int32) (x3 : Int32) : Prop := t_X_thumb_19 E I T Q x1 x2 x3 0
theorem s_X_thumb_18 {E : MEnv} {I : II} {T : TT} {Q : QQ} {x1 : Int32} {x2 : Int32} {x3 : Int32} (hq : t_X_thumb_18 E I T Q x1 x2 x3) : ev E 263 18 [none, some (.int x1), some (.int x2), some (.int x3), none, none, none, none, none] [(.ref 0)] I T Q := by
  unfold t_X_thumb_18 at hq
  refine ev_seq 1 (ip' := 19) (loc' := [none, some (.int x1), some (.int x2), some (.int x3), none, none, none, none, none]) (st' := [(.int 0), (.ref 0)]) (I1 := I) (T1 := T) rfl ?_
  exact s_X_thumb_19 (T := T) hq
def t_X_thumb_0 (E : MEnv) (I : II) (T : TT) (Q : QQ) (x1 : Int32) (x2 : Int32) (x3 : Int32) : Prop := ev E 27 0 [some (.int x1), some (.int 0), some (.int 99)] [] I T (KI (fun v1 I1 T1 => (v1 = 0 → (t_X_thumb_18 E I1 T1 Q x1 x2 x3)) ∧ (¬ (v1 = 0) → (ev E 27 0 [some (.int x2), some (.int 0), some (.int 99)] [] I1 T1 (KI (fun v2 I2 T2 => (v2 = 0 → (t_X_thumb_18 E I2 T2 Q x1 x2 x3)) ∧ (¬ (v2 = 0) → (ev E 27 0 [some (.int x3), some (.int 0), some (.int 2)] [] I2 T2 (KI (fun v3 I3 T3 => (v3 = 0 → (t_X_thumb_18 E I3 T3 Q x1 x2 x3)) ∧ (¬ (v3 = 0) → (t_X_thumb_19 E I3 T3 Q x1 x2 x3 1))) (fun _ _ _ => False))))) (fun _ _ _ => False))))) (fun _ _ _ => False))
theorem s_X_thumb_0 {E : MEnv} {I : II} {T : TT} {Q : QQ} {x1 : Int32} {x2 : Int32} {x3 : Int32} (hq : t_X_thumb_0 E I T Q x1 x2 x3) : ev E 263 0 [some (.ref 0), some (.int x1), some (.int x2), some (.int x3), none, none, none, none, none] [] I T Q := by
  unfold t_X_thumb_0 at hq
  refine ev_seq 4 (ip' := 4) (loc' := [some (.ref 0), some (.int x1), some (.int x2), some (.int x3), none, none, none, none, none]) (st' := [(.int 99), (.int 0), (.int x1), (.ref 0)]) (I1 := I) (T1 := T) rfl ?_
  refine ev_callI rfl rfl rfl (fun v1 I1 T1 hq => ?_) (fun x I1 T1 hq => ?_) hq
  · refine ev_br (p := v1 = 0) (a := 18) (b := 6) (st' := [(.ref 0)]) inferInstance rfl rfl (fun hb => ?_) (fun hb => ?_)
    · have hq := hq.1 hb
      refine ev_fg [false, true, true, true, true, true, true, true, true] (loc' := [none, some (.int x1), some (.int x2), some (.int x3), none, none, none, none, none]) rfl ?_
      exact s_X_thumb_18 (T := T1) hq
    · have hq := hq.2 hb
      refine ev_seq 3 (ip' := 9) (loc' := [some (.ref 0), some (.int x1), some (.int x2), some (.int x3), none, none, none, none, none]) (st' := [(.int 99), (.int 0), (.int x2), (.ref 0)]) (I1 := I1) (T1 := T1) rfl ?_
      refine ev_callI rfl rfl rfl (fun v2 I2 T2 hq => ?_) (fun x I1 T1 hq => ?_) hq
      · refine ev_br (p := v2 = 0) (a := 18) (b := 11) (st' := [(.ref 0)]) inferInstance rfl rfl (fun hb => ?_) (fun hb => ?_)
        · have hq := hq.1 hb
          refine ev_fg [false, true, true, true, true, true, true, true, true] (loc' := [none, some (.int x1), some (.int x2), some (.int x3), none, none, none, none, none]) rfl ?_
          exact s_X_thumb_18 (T := T2) hq
        · have hq := hq.2 hb
          refine ev_seq 3 (ip' := 14) (loc' := [some (.ref 0), some (.int x1), some (.int x2), some (.int x3), none, none, none, none, none]) (st' := [(.int 2), (.int 0), (.int x3), (.ref 0)]) (I1 := I2) (T1 := T2) rfl ?_
          refine ev_callI rfl rfl rfl (fun v3 I3 T3 hq => ?_) (fun x I1 T1 hq => ?_) hq
          · refine ev_br (p := v3 = 0) (a := 18) (b := 16) (st' := [(.ref 0)]) inferInstance rfl rfl (fun hb => ?_) (fun hb => ?_)
            · have hq := hq.1 hb
              refine ev_fg [false, true, true, true, true, true, true, true, true] (loc' := [none, some (.int x1), some (.int x2), some (.int x3), none, none, none, none, none]) rfl ?_
              exact s_X_thumb_18 (T := T3) hq
            · have hq := hq.2 hb
              refine ev_seq 2 (ip' := 19) (loc' := [some (.ref 0), some (.int x1), some (.int x2), some (.int x3), none, none, none, none, none]) (st' := [(.int 1), (.ref 0)]) (I1 := I3) (T1 := T3) rfl ?_
              refine ev_fg [false, true, true, true, true, true, true, true, true] (loc' := [none, some (.int x1), some (.int x2), some (.int x3), none, none, none, none, none]) rfl ?_
              exact s_X_thumb_19 (T := T3) hq
          · exact hq.elim
      · exact hq.elim
  · exact hq.elim
/-- FeltHarness.thumbHas(IIII)I -/
def t_X_thumbHas_7 (E : MEnv) (I : II) (T : TT) (Q : QQ) (y0 : Int32) : Prop := Q (.inl (some (.int y0))) I T
theorem s_X_thumbHas_7 {E : MEnv} {I : II} {T : TT} {Q : QQ} {y0 : Int32} (hq : t_X_thumbHas_7 E I T Q y0) : ev E 265 7 [none, none, none, none] [(.int y0)] I T Q := by
  unfold t_X_thumbHas_7 at hq
  exact ev_ret rfl rfl hq
def t_X_thumbHas_14 (E : MEnv) (I : II) (T : TT) (Q : QQ) (y0 : Int32) : Prop := Q (.inl (some (.int y0))) I T
theorem s_X_thumbHas_14 {E : MEnv} {I : II} {T : TT} {Q : QQ} {y0 : Int32} (hq : t_X_thumbHas_14 E I T Q y0) : ev E 265 14 [none, none, none, none] [(.int y0)] I T Q := by
  unfold t_X_thumbHas_14 at hq
  exact ev_ret rfl rfl hq
def t_X_thumbHas_0 (E : MEnv) (I : II) (T : TT) (Q : QQ) (x0 : Int32) (x1 : Int32) (x2 : Int32) (x3 : Int32) : Prop := (x2 = 0 → ((x3 = 0 → (t_X_thumbHas_7 E I T Q x1)) ∧ (¬ (x3 = 0) → (t_X_thumbHas_7 E I T Q 0)))) ∧ (¬ (x2 = 0) → ((x3 = 0 → (t_X_thumbHas_14 E I T Q x0)) ∧ (¬ (x3 = 0) → (t_X_thumbHas_14 E I T Q (0 - x1)))))
theorem s_X_thumbHas_0 {E : MEnv} {I : II} {T : TT} {Q : QQ} {x0 : Int32} {x1 : Int32} {x2 : Int32} {x3 : Int32} (hq : t_X_thumbHas_0 E I T Q x0 x1 x2 x3) : ev E 265 0 [some (.int x0), some (.int x1), some (.int x2), some (.int x3)] [] I T Q := by
  unfold t_X_thumbHas_0 at hq
  refine ev_seq 1 (ip' := 1) (loc' := [some (.int x0), some (.int x1), some (.int x2), some (.int x3)]) (st' := [(.int x2)]) (I1 := I) (T1 := T) rfl ?_
  refine ev_br (p := x2 = 0) (a := 2) (b := 8) (st' := []) inferInstance rfl rfl (fun hb => ?_) (fun hb => ?_)
  · have hq := hq.1 hb
    refine ev_seq 1 (ip' := 3) (loc' := [some (.int x0), some (.int x1), some (.int x2), some (.int x3)]) (st' := [(.int x3)]) (I1 := I) (T1 := T) rfl ?_
    refine ev_br (p := x3 = 0) (a := 4) (b := 6) (st' := []) inferInstance rfl rfl (fun hb => ?_) (fun hb => ?_)
    · have hq := hq.1 hb
      refine ev_seq 2 (ip' := 7) (loc' := [some (.int x0), some (.int x1), some (.int x2), some (.int x3)]) (st' := [(.int x1)]) (I1 := I) (T1 := T) rfl ?_
      refine ev_fg [false, false, false, false] (loc' := [none, none, none, none]) rfl ?_
      exact s_X_thumbHas_7 (T := T) hq
    · have hq := hq.2 hb
      refine ev_seq 1 (ip' := 7) (loc' := [some (.int x0), some (.int x1), some (.int x2), some (.int x3)]) (st' := [(.int 0)]) (I1 := I) (T1 := T) rfl ?_
      refine ev_fg [false, false, false, false] (loc' := [none, none, none, none]) rfl ?_
      exact s_X_thumbHas_7 (T := T) hq
  · have hq := hq.2 hb
    refine ev_seq 1 (ip' := 9) (loc' := [some (.int x0), some (.int x1), some (.int x2), some (.int x3)]) (st' := [(.int x3)]) (I1 := I) (T1 := T) rfl ?_
    refine ev_br (p := x3 = 0) (a := 10) (b := 12) (st' := []) inferInstance rfl rfl (fun hb => ?_) (fun hb => ?_)
    · have hq := hq.1 hb
      refine ev_seq 2 (ip' := 14) (loc' := [some (.int x0), some (.int x1), some (.int x2), some (.int x3)]) (st' := [(.int x0)]) (I1 := I) (T1 := T) rfl ?_
      refine ev_fg [false, false, false, false] (loc' := [none, none, none, none]) rfl ?_
      exact s_X_thumbHas_14 (T := T) hq
    · have hq := hq.2 hb
      refine ev_seq 2 (ip' := 14) (loc' := [some (.int x0), some (.int x1), some (.int x2), some (.int x3)]) (st' := [(.int (0 - x1))]) (I1 := I) (T1 := T) rfl ?_
      refine ev_fg [false, false, false, false] (loc' := [none, none, none, none]) rfl ?_
      exact s_X_thumbHas_14 (T := T) hq
/-- FeltHarness.thumbRests(IIII)Z -/
def t_X_thumbRests_29 (E : MEnv) (I : II) (T : TT) (Q : QQ) (y0 : Int32) : Prop := (y0 = 0 ∨ y0 = 1) ∧ Q (.inl (some (.int y0))) I T
theorem s_X_thumbRests_29 {E : MEnv} {I : II} {T : TT} {Q : QQ} {y0 : Int32} (hq : t_X_thumbRests_29 E I T Q y0) : ev E 264 29 [none, none, none, none] [(.int y0)] I T Q := by
  unfold t_X_thumbRests_29 at hq
  exact ev_retb rfl rfl hq.1 hq.2
def t_X_thumbRests_28 (E : MEnv) (I : II) (T : TT) (Q : QQ) : Prop := t_X_thumbRests_29 E I T Q 0
theorem s_X_thumbRests_28 {E : MEnv} {I : II} {T : TT} {Q : QQ} (hq : t_X_thumbRests_28 E I T Q) : ev E 264 28 [none, none, none, none] [] I T Q := by
  unfold t_X_thumbRests_28 at hq
  refine ev_seq 1 (ip' := 29) (loc' := [none, none, none, none]) (st' := [(.int 0)]) (I1 := I) (T1 := T) rfl ?_
  exact s_X_thumbRests_29 (T := T) hq
def t_X_thumbRests_0 (E : MEnv) (I : II) (T : TT) (Q : QQ) (x0 : Int32) (x1 : Int32) (x2 : Int32) (x3 : Int32) : Prop := ev E 265 0 [some (.int x0), some (.int x1), some (.int x2), some (.int x3)] [] I T (KI (fun v1 I1 T1 => ev E 265 0 [some (.int x0), some (.int x1), some (.int (1 - x2)), some (.int x3)] [] I1 T1 (KI (fun v2 I2 T2 => (v1 < v2 → (t_X_thumbRests_28 E I2 T2 Q )) ∧ (¬ (v1 < v2) → (ev E 265 0 [some (.int x0), some (.int x1), some (.int x3), some (.int x2)] [] I2 T2 (KI (fun v3 I3 T3 => ev E 265 0 [some (.int x0), some (.int x1), some (.int (1 - x3)), some (.int x2)] [] I3 T3 (KI (fun v4 I4 T4 => (v3 < v4 → (t_X_thumbRests_28 E I4 T4 Q )) ∧ (¬ (v3 < v4) → (t_X_thumbRests_29 E I4 T4 Q 1))) (fun _ _ _ => False))) (fun _ _ _ => False))))) (fun _ _ _ => False))) (fun _ _ _ => False))
theorem s_X_thumbRests_0 {E : MEnv} {I : II} {T : TT} {Q : QQ} {x0 : Int32} {x1 : Int32} {x2 : Int32} {x3 : Int32} (hq : t_X_thumbRests_0 E I T Q x0 x1 x2 x3) : ev E 264 0 [some (.int x0), some (.int x1), some (.int x2), some (.int x3)] [] I T Q := by
  unfold t_X_thumbRests_0 at hq
  refine ev_seq 4 (ip' := 4) (loc' := [some (.int x0), some (.int x1), some (.int x2), some (.int x3)]) (st' := [(.int x3), (.int x2), (.int x1), (.int x0)]) (I1 := I) (T1 := T) rfl ?_
  refine ev_callI rfl rfl rfl (fun v1 I1 T1 hq => ?_) (fun x I1 T1 hq => ?_) hq
  · refine ev_seq 6 (ip' := 11) (loc' := [some (.int x0), some (.int x1), some (.int x2), some (.int x3)]) (st' := [(.int x3), (.int (1 - x2)), (.int x1), (.int x0), (.int v1)]) (I1 := I1) (T1 := T1) rfl ?_
    refine ev_callI rfl rfl rfl (fun v2 I2 T2 hq => ?_) (fun x I1 T1 hq => ?_) hq
    · refine ev_br (p := v1 < v2) (a := 28) (b := 13) (st' := []) inferInstance rfl rfl (fun hb => ?_) (fun hb => ?_)
      · have hq := hq.1 hb
        refine ev_fg [false, false, false, false] (loc' := [none, none, none, none]) rfl ?_
        exact s_X_thumbRests_28 (T := T2) hq
      · have hq := hq.2 hb
        refine ev_seq 4 (ip' := 17) (loc' := [some (.int x0), some (.int x1), some (.int x2), some (.int x3)]) (st' := [(.int x2), (.int x3), (.int x1), (.int x0)]) (I1 := I2) (T1 := T2) rfl ?_
        refine ev_callI rfl rfl rfl (fun v3 I3 T3 hq => ?_) (fun x I1 T1 hq => ?_) hq
        · refine ev_seq 6 (ip' := 24) (loc' := [some (.int x0), some (.int x1), some (.int x2), some (.int x3)]) (st' := [(.int x2), (.int (1 - x3)), (.int x1), (.int x0), (.int v3)]) (I1 := I3) (T1 := T3) rfl ?_
          refine ev_callI rfl rfl rfl (fun v4 I4 T4 hq => ?_) (fun x I1 T1 hq => ?_) hq
          · refine ev_br (p := v3 < v4) (a := 28) (b := 26) (st' := []) inferInstance rfl rfl (fun hb => ?_) (fun hb => ?_)
            · have hq := hq.1 hb
              refine ev_fg [false, false, false, false] (loc' := [none, none, none, none]) rfl ?_
              exact s_X_thumbRests_28 (T := T4) hq
            · have hq := hq.2 hb
              refine ev_seq 2 (ip' := 29) (loc' := [some (.int x0), some (.int x1), some (.int x2), some (.int x3)]) (st' := [(.int 1)]) (I1 := I4) (T1 := T4) rfl ?_
              refine ev_fg [false, false, false, false] (loc' := [none, none, none, none]) rfl ?_
              exact s_X_thumbRests_29 (T := T4) hq
          · exact hq.elim
        · exact hq.elim
    · exact hq.elim
  · exact hq.elim
/-- FeltHarness.told(I)I -/
def t_X_told_0 (E : MEnv) (I : II) (T : TT) (Q : QQ) (x1 : Int32) : Prop := ev E 27 0 [some (.int x1), some (.int 0), some (.int 12)] [] I T (KI (fun v1 I1 T1 => ev E 28 0 [some (.ref 0), some (.int v1)] [] I1 T1 (KV (fun I2 T2 => ev E 181 (m_tsw 0 11 [8, 12, 16, 20, 24, 28, 32, 36, 41, 46, 51, 55] 58 x1) [some (.ref 0), some (.int x1)] [] I2 T2 Q) (fun x I1 T1 => Q (.inr x) I1 T1))) (fun _ _ _ => False))
theorem s_X_told_0 {E : MEnv} {I : II} {T : TT} {Q : QQ} {x1 : Int32} (hq : t_X_told_0 E I T Q x1) : ev E 181 0 [some (.ref 0), some (.int x1)] [] I T Q := by
  unfold t_X_told_0 at hq
  refine ev_seq 4 (ip' := 4) (loc' := [some (.ref 0), some (.int x1)]) (st' := [(.int 12), (.int 0), (.int x1), (.ref 0)]) (I1 := I) (T1 := T) rfl ?_
  refine ev_callI rfl rfl rfl (fun v1 I1 T1 hq => ?_) (fun x I1 T1 hq => ?_) hq
  · refine ev_callV rfl rfl rfl (fun I2 T2 hq => ?_) (fun x I1 T1 hq => ?_) hq
    · refine ev_seq 1 (ip' := 7) (loc' := [some (.ref 0), some (.int x1)]) (st' := [(.int x1)]) (I1 := I2) (T1 := T2) rfl ?_
      refine ev_jp rfl rfl ?_
      exact hq
    · exact ⟨by decide, hq⟩
  · exact hq.elim
def t_X_told_8 (E : MEnv) (I : II) (T : TT) (Q : QQ) : Prop := Q (.inl (some (.int (I 3 5)))) I T
theorem s_X_told_8 {E : MEnv} {I : II} {T : TT} {Q : QQ} (hq : t_X_told_8 E I T Q) : ev E 181 8 [some (.ref 0), none] [] I T Q := by
  unfold t_X_told_8 at hq
  refine ev_seq 3 (ip' := 11) (loc' := [some (.ref 0), none]) (st' := [(.int (I 3 5))]) (I1 := I) (T1 := T) rfl ?_
  exact ev_ret rfl rfl hq
def t_X_told_12 (E : MEnv) (I : II) (T : TT) (Q : QQ) : Prop := Q (.inl (some (.int (I 3 6)))) I T
theorem s_X_told_12 {E : MEnv} {I : II} {T : TT} {Q : QQ} (hq : t_X_told_12 E I T Q) : ev E 181 12 [some (.ref 0), none] [] I T Q := by
  unfold t_X_told_12 at hq
  refine ev_seq 3 (ip' := 15) (loc' := [some (.ref 0), none]) (st' := [(.int (I 3 6))]) (I1 := I) (T1 := T) rfl ?_
  exact ev_ret rfl rfl hq
def t_X_told_16 (E : MEnv) (I : II) (T : TT) (Q : QQ) : Prop := ev E 116 0 [some (.ref 28)] [] I T (KI (fun v1 I1 T1 => Q (.inl (some (.int v1))) I1 T1) (fun x I1 T1 => Q (.inr x) I1 T1))
theorem s_X_told_16 {E : MEnv} {I : II} {T : TT} {Q : QQ} (hq : t_X_told_16 E I T Q) : ev E 181 16 [some (.ref 0), none] [] I T Q := by
  unfold t_X_told_16 at hq
  refine ev_seq 2 (ip' := 18) (loc' := [some (.ref 0), none]) (st' := [(.ref 28)]) (I1 := I) (T1 := T) rfl ?_
  refine ev_callI rfl rfl rfl (fun v1 I1 T1 hq => ?_) (fun x I1 T1 hq => ?_) hq
  · exact ev_ret rfl rfl hq
  · exact ⟨by decide, hq⟩
def t_X_told_20 (E : MEnv) (I : II) (T : TT) (Q : QQ) : Prop := ev E 115 0 [some (.ref 28)] [] I T (KI (fun v1 I1 T1 => Q (.inl (some (.int v1))) I1 T1) (fun x I1 T1 => Q (.inr x) I1 T1))
theorem s_X_told_20 {E : MEnv} {I : II} {T : TT} {Q : QQ} (hq : t_X_told_20 E I T Q) : ev E 181 20 [some (.ref 0), none] [] I T Q := by
  unfold t_X_told_20 at hq
  refine ev_seq 2 (ip' := 22) (loc' := [some (.ref 0), none]) (st' := [(.ref 28)]) (I1 := I) (T1 := T) rfl ?_
  refine ev_callI rfl rfl rfl (fun v1 I1 T1 hq => ?_) (fun x I1 T1 hq => ?_) hq
  · exact ev_ret rfl rfl hq
  · exact ⟨by decide, hq⟩
def t_X_told_24 (E : MEnv) (I : II) (T : TT) (Q : QQ) : Prop := ev E 112 0 [some (.ref 28), none, none] [] I T (KI (fun v1 I1 T1 => Q (.inl (some (.int v1))) I1 T1) (fun x I1 T1 => Q (.inr x) I1 T1))
theorem s_X_told_24 {E : MEnv} {I : II} {T : TT} {Q : QQ} (hq : t_X_told_24 E I T Q) : ev E 181 24 [some (.ref 0), none] [] I T Q := by
  unfold t_X_told_24 at hq
  refine ev_seq 2 (ip' := 26) (loc' := [some (.ref 0), none]) (st' := [(.ref 28)]) (I1 := I) (T1 := T) rfl ?_
  refine ev_callI rfl rfl rfl (fun v1 I1 T1 hq => ?_) (fun x I1 T1 hq => ?_) hq
  · exact ev_ret rfl rfl hq
  · exact ⟨by decide, hq⟩
def t_X_told_28 (E : MEnv) (I : II) (T : TT) (Q : QQ) : Prop := ev E 182 0 [some (.ref 28)] [] I T (KI (fun v1 I1 T1 => Q (.inl (some (.int v1))) I1 T1) (fun x I1 T1 => Q (.inr x) I1 T1))
theorem s_X_told_28 {E : MEnv} {I : II} {T : TT} {Q : QQ} (hq : t_X_told_28 E I T Q) : ev E 181 28 [some (.ref 0), none] [] I T Q := by
  unfold t_X_told_28 at hq
  refine ev_seq 2 (ip' := 30) (loc' := [some (.ref 0), none]) (st' := [(.ref 28)]) (I1 := I) (T1 := T) rfl ?_
  refine ev_callI rfl rfl rfl (fun v1 I1 T1 hq => ?_) (fun x I1 T1 hq => ?_) hq
  · exact ev_ret rfl rfl hq
  · exact ⟨by decide, hq⟩
def t_X_told_32 (E : MEnv) (I : II) (T : TT) (Q : QQ) : Prop := ev E 183 0 [some (.ref 28)] [] I T (KI (fun v1 I1 T1 => Q (.inl (some (.int v1))) I1 T1) (fun x I1 T1 => Q (.inr x) I1 T1))
theorem s_X_told_32 {E : MEnv} {I : II} {T : TT} {Q : QQ} (hq : t_X_told_32 E I T Q) : ev E 181 32 [some (.ref 0), none] [] I T Q := by
  unfold t_X_told_32 at hq
  refine ev_seq 2 (ip' := 34) (loc' := [some (.ref 0), none]) (st' := [(.ref 28)]) (I1 := I) (T1 := T) rfl ?_
  refine ev_callI rfl rfl rfl (fun v1 I1 T1 hq => ?_) (fun x I1 T1 hq => ?_) hq
  · exact ev_ret rfl rfl hq
  · exact ⟨by decide, hq⟩
def t_X_told_36 (E : MEnv) (I : II) (T : TT) (Q : QQ) : Prop := ev E 184 0 [some (.ref 28), some (.int 2)] [] I T (KI (fun v1 I1 T1 => Q (.inl (some (.int v1))) I1 T1) (fun x I1 T1 => Q (.inr x) I1 T1))
theorem s_X_told_36 {E : MEnv} {I : II} {T : TT} {Q : QQ} (hq : t_X_told_36 E I T Q) : ev E 181 36 [some (.ref 0), none] [] I T Q := by
  unfold t_X_told_36 at hq
  refine ev_seq 3 (ip' := 39) (loc' := [some (.ref 0), none]) (st' := [(.int 2), (.ref 28)]) (I1 := I) (T1 := T) rfl ?_
  refine ev_callI rfl rfl rfl (fun v1 I1 T1 hq => ?_) (fun x I1 T1 hq => ?_) hq
  · exact ev_ret rfl rfl hq
  · exact ⟨by decide, hq⟩
def t_X_told_41 (E : MEnv) (I : II) (T : TT) (Q : QQ) : Prop := ev E 184 0 [some (.ref 28), some (.int 1)] [] I T (KI (fun v1 I1 T1 => Q (.inl (some (.int v1))) I1 T1) (fun x I1 T1 => Q (.inr x) I1 T1))
theorem s_X_told_41 {E : MEnv} {I : II} {T : TT} {Q : QQ} (hq : t_X_told_41 E I T Q) : ev E 181 41 [some (.ref 0), none] [] I T Q := by
  unfold t_X_told_41 at hq
  refine ev_seq 3 (ip' := 44) (loc' := [some (.ref 0), none]) (st' := [(.int 1), (.ref 28)]) (I1 := I) (T1 := T) rfl ?_
  refine ev_callI rfl rfl rfl (fun v1 I1 T1 hq => ?_) (fun x I1 T1 hq => ?_) hq
  · exact ev_ret rfl rfl hq
  · exact ⟨by decide, hq⟩
def t_X_told_46 (E : MEnv) (I : II) (T : TT) (Q : QQ) : Prop := ev E 184 0 [some (.ref 28), some (.int 0)] [] I T (KI (fun v1 I1 T1 => Q (.inl (some (.int v1))) I1 T1) (fun x I1 T1 => Q (.inr x) I1 T1))
theorem s_X_told_46 {E : MEnv} {I : II} {T : TT} {Q : QQ} (hq : t_X_told_46 E I T Q) : ev E 181 46 [some (.ref 0), none] [] I T Q := by
  unfold t_X_told_46 at hq
  refine ev_seq 3 (ip' := 49) (loc' := [some (.ref 0), none]) (st' := [(.int 0), (.ref 28)]) (I1 := I) (T1 := T) rfl ?_
  refine ev_callI rfl rfl rfl (fun v1 I1 T1 hq => ?_) (fun x I1 T1 hq => ?_) hq
  · exact ev_ret rfl rfl hq
  · exact ⟨by decide, hq⟩
def t_X_told_51 (E : MEnv) (I : II) (T : TT) (Q : QQ) : Prop := Q (.inl (some (.int (I 20 2)))) I T
theorem s_X_told_51 {E : MEnv} {I : II} {T : TT} {Q : QQ} (hq : t_X_told_51 E I T Q) : ev E 181 51 [some (.ref 0), none] [] I T Q := by
  unfold t_X_told_51 at hq
  refine ev_seq 3 (ip' := 54) (loc' := [some (.ref 0), none]) (st' := [(.int (I 20 2))]) (I1 := I) (T1 := T) rfl ?_
  exact ev_ret rfl rfl hq
def t_X_told_55 (E : MEnv) (I : II) (T : TT) (Q : QQ) : Prop := Q (.inl (some (.int (I 0 13)))) I T
theorem s_X_told_55 {E : MEnv} {I : II} {T : TT} {Q : QQ} (hq : t_X_told_55 E I T Q) : ev E 181 55 [some (.ref 0), none] [] I T Q := by
  unfold t_X_told_55 at hq
  refine ev_seq 2 (ip' := 57) (loc' := [some (.ref 0), none]) (st' := [(.int (I 0 13))]) (I1 := I) (T1 := T) rfl ?_
  exact ev_ret rfl rfl hq
def t_X_told_58 (E : MEnv) (I : II) (T : TT) (Q : QQ) : Prop := Q (.inl (some (.int (I 3 7)))) I T
theorem s_X_told_58 {E : MEnv} {I : II} {T : TT} {Q : QQ} (hq : t_X_told_58 E I T Q) : ev E 181 58 [some (.ref 0), none] [] I T Q := by
  unfold t_X_told_58 at hq
  refine ev_seq 3 (ip' := 61) (loc' := [some (.ref 0), none]) (st' := [(.int (I 3 7))]) (I1 := I) (T1 := T) rfl ?_
  exact ev_ret rfl rfl hq
/-- FeltHarness.undo()I -/
def t_X_undo_0 (E : MEnv) (I : II) (T : TT) (Q : QQ) : Prop := ((I 32 3) = 0 → (Q (.inl (some (.int (-1)))) I T)) ∧ (¬ ((I 32 3) = 0) → (ev E 53 0 [some (.ref 36)] [] I T (KV (fun I1 T1 => ev E 177 0 [some (.ref 32), some (.ref 28)] [] I1 T1 (KV (fun I2 T2 => Q (.inl (some (.int ((m_up I2 0 13 0) 32 3)))) (m_up I2 0 13 0) T2) (fun x I1 T1 => Q (.inr x) I1 T1))) (fun x I1 T1 => Q (.inr x) I1 T1))))
theorem s_X_undo_0 {E : MEnv} {I : II} {T : TT} {Q : QQ} (hq : t_X_undo_0 E I T Q) : ev E 176 0 [some (.ref 0)] [] I T Q := by
  unfold t_X_undo_0 at hq
  refine ev_seq 3 (ip' := 3) (loc' := [some (.ref 0)]) (st' := [(.int (I 32 3))]) (I1 := I) (T1 := T) rfl ?_
  refine ev_br (p := (I 32 3) = 0) (a := 4) (b := 6) (st' := []) inferInstance rfl rfl (fun hb => ?_) (fun hb => ?_)
  · have hq := hq.1 hb
    refine ev_seq 1 (ip' := 5) (loc' := [some (.ref 0)]) (st' := [(.int (-1))]) (I1 := I) (T1 := T) rfl ?_
    exact ev_ret rfl rfl hq
  · have hq := hq.2 hb
    refine ev_seq 2 (ip' := 8) (loc' := [some (.ref 0)]) (st' := [(.ref 36)]) (I1 := I) (T1 := T) rfl ?_
    refine ev_callV rfl rfl rfl (fun I1 T1 hq => ?_) (fun x I1 T1 hq => ?_) hq
    · refine ev_seq 4 (ip' := 13) (loc' := [some (.ref 0)]) (st' := [(.ref 28), (.ref 32)]) (I1 := I1) (T1 := T1) rfl ?_
      refine ev_callV rfl rfl rfl (fun I2 T2 hq => ?_) (fun x I1 T1 hq => ?_) hq
      · refine ev_seq 6 (ip' := 20) (loc' := [some (.ref 0)]) (st' := [(.int ((m_up I2 0 13 0) 32 3))]) (I1 := m_up I2 0 13 0) (T1 := T2) rfl ?_
        exact ev_ret rfl rfl hq
      · exact ⟨by decide, hq⟩
    · exact ⟨by decide, hq⟩
/-- FeltHarness.waits()I -/
def t_X_waits_13 (E : MEnv) (I : II) (T : TT) (Q : QQ) (x1 : Int32) : Prop := (99 < x1 → (Q (.inl (some (.int (-1)))) I T)) ∧ (¬ (99 < x1) → (ev E 115 0 [some (.ref 30)] [] I T (KI (fun v1 I1 T1 => ev E 209 0 [some (.ref 30), some (.int v1)] [] I1 T1 (KI (fun v2 I2 T2 => (v2 = 2 → (Q (.inl (some (.int x1))) I2 T2)) ∧ (¬ (v2 = 2) → (ev E 142 0 [some (.ref 30), none] [] I2 T2 (KV (fun I3 T3 => ev E 214 13 [some (.ref 0), some (.int (x1 + 1))] [] I3 T3 Q) (fun x I1 T1 => Q (.inr x) I1 T1))))) (fun x I1 T1 => Q (.inr x) I1 T1))) (fun x I1 T1 => Q (.inr x) I1 T1))))
theorem s_X_waits_13 {E : MEnv} {I : II} {T : TT} {Q : QQ} {x1 : Int32} (hq : t_X_waits_13 E I T Q x1) : ev E 214 13 [some (.ref 0), some (.int x1)] [] I T Q := by
  unfold t_X_waits_13 at hq
  refine ev_seq 2 (ip' := 15) (loc' := [some (.ref 0), some (.int x1)]) (st' := [(.int 99), (.int x1)]) (I1 := I) (T1 := T) rfl ?_
  refine ev_br (p := 99 < x1) (a := 31) (b := 16) (st' := []) inferInstance rfl rfl (fun hb => ?_) (fun hb => ?_)
  · have hq := hq.1 hb
    refine ev_seq 1 (ip' := 32) (loc' := [some (.ref 0), some (.int x1)]) (st' := [(.int (-1))]) (I1 := I) (T1 := T) rfl ?_
    exact ev_ret rfl rfl hq
  · have hq := hq.2 hb
    refine ev_seq 4 (ip' := 20) (loc' := [some (.ref 0), some (.int x1)]) (st' := [(.ref 30), (.ref 30)]) (I1 := I) (T1 := T) rfl ?_
    refine ev_callI rfl rfl rfl (fun v1 I1 T1 hq => ?_) (fun x I1 T1 hq => ?_) hq
    · refine ev_callI rfl rfl rfl (fun v2 I2 T2 hq => ?_) (fun x I1 T1 hq => ?_) hq
      · refine ev_seq 1 (ip' := 23) (loc' := [some (.ref 0), some (.int x1)]) (st' := [(.int 2), (.int v2)]) (I1 := I2) (T1 := T2) rfl ?_
        refine ev_br (p := v2 = 2) (a := 24) (b := 26) (st' := []) inferInstance rfl rfl (fun hb => ?_) (fun hb => ?_)
        · have hq := hq.1 hb
          refine ev_seq 1 (ip' := 25) (loc' := [some (.ref 0), some (.int x1)]) (st' := [(.int x1)]) (I1 := I2) (T1 := T2) rfl ?_
          exact ev_ret rfl rfl hq
        · have hq := hq.2 hb
          refine ev_seq 2 (ip' := 28) (loc' := [some (.ref 0), some (.int x1)]) (st' := [(.ref 30)]) (I1 := I2) (T1 := T2) rfl ?_
          refine ev_callV rfl rfl rfl (fun I3 T3 hq => ?_) (fun x I1 T1 hq => ?_) hq
          · refine ev_seq 2 (ip' := 13) (loc' := [some (.ref 0), some (.int (x1 + 1))]) (st' := []) (I1 := I3) (T1 := T3) rfl ?_
            exact hq
          · exact ⟨by decide, hq⟩
      · exact ⟨by decide, hq⟩
    · exact ⟨by decide, hq⟩
def t_X_waits_0 (E : MEnv) (I : II) (T : TT) (Q : QQ) : Prop := ev E 114 0 [some (.ref 28)] [] I T (KI (fun v1 I1 T1 => (v1 = 0 → (Q (.inl (some (.int (-1)))) I1 T1)) ∧ (¬ (v1 = 0) → (ev E 212 0 [some (.ref 30), some (.ref 28)] [] I1 T1 (KV (fun I2 T2 => t_X_waits_13 E I2 T2 Q 0) (fun x I1 T1 => Q (.inr x) I1 T1))))) (fun x I1 T1 => Q (.inr x) I1 T1))
theorem s_X_waits_0 {E : MEnv} {I : II} {T : TT} {Q : QQ} (hq : t_X_waits_0 E I T Q) : ev E 214 0 [some (.ref 0), none] [] I T Q := by
  unfold t_X_waits_0 at hq
  refine ev_seq 2 (ip' := 2) (loc' := [some (.ref 0), none]) (st' := [(.ref 28)]) (I1 := I) (T1 := T) rfl ?_
  refine ev_callI rfl rfl rfl (fun v1 I1 T1 hq => ?_) (fun x I1 T1 hq => ?_) hq
  · refine ev_br (p := v1 = 0) (a := 4) (b := 6) (st' := []) inferInstance rfl rfl (fun hb => ?_) (fun hb => ?_)
    · have hq := hq.1 hb
      refine ev_seq 1 (ip' := 5) (loc' := [some (.ref 0), none]) (st' := [(.int (-1))]) (I1 := I1) (T1 := T1) rfl ?_
      exact ev_ret rfl rfl hq
    · have hq := hq.2 hb
      refine ev_seq 4 (ip' := 10) (loc' := [some (.ref 0), none]) (st' := [(.ref 28), (.ref 30)]) (I1 := I1) (T1 := T1) rfl ?_
      refine ev_callV rfl rfl rfl (fun I2 T2 hq => ?_) (fun x I1 T1 hq => ?_) hq
      · refine ev_seq 2 (ip' := 13) (loc' := [some (.ref 0), some (.int 0)]) (st' := []) (I1 := I2) (T1 := T2) rfl ?_
        exact s_X_waits_13 (T := T2) hq
      · exact ⟨by decide, hq⟩
  · exact ⟨by decide, hq⟩
/-- FeltHarness.ways(II)J -/
def t_X_ways_4 (E : MEnv) (I : II) (T : TT) (Q : QQ) (x0 : Int32) (x1 : Int32) (x2 : Int64) (x4 : Int32) : Prop := (x1 < x4 → (Q (.inl (some (.long x2))) I T)) ∧ (¬ (x1 < x4) → (x4.toInt64 ≠ 0 ∧ (ev E 271 4 [some (.int x0), some (.int x1), some (.long ((x2 * (((x0 - x1) + x4).toInt64)) / x4.toInt64)), none, some (.int (x4 + 1))] [] I T Q)))
theorem s_X_ways_4 {E : MEnv} {I : II} {T : TT} {Q : QQ} {x0 : Int32} {x1 : Int32} {x2 : Int64} {x4 : Int32} (hq : t_X_ways_4 E I T Q x0 x1 x2 x4) : ev E 271 4 [some (.int x0), some (.int x1), some (.long x2), none, some (.int x4)] [] I T Q := by
  unfold t_X_ways_4 at hq
  refine ev_seq 2 (ip' := 6) (loc' := [some (.int x0), some (.int x1), some (.long x2), none, some (.int x4)]) (st' := [(.int x1), (.int x4)]) (I1 := I) (T1 := T) rfl ?_
  refine ev_br (p := x1 < x4) (a := 21) (b := 7) (st' := []) inferInstance rfl rfl (fun hb => ?_) (fun hb => ?_)
  · have hq := hq.1 hb
    refine ev_seq 1 (ip' := 22) (loc' := [some (.int x0), some (.int x1), some (.long x2), none, some (.int x4)]) (st' := [(.long x2)]) (I1 := I) (T1 := T) rfl ?_
    exact ev_ret rfl rfl hq
  · have hq := hq.2 hb
    refine ev_seq 10 (ip' := 17) (loc' := [some (.int x0), some (.int x1), some (.long x2), none, some (.int x4)]) (st' := [(.long x4.toInt64), (.long (x2 * (((x0 - x1) + x4).toInt64)))]) (I1 := I) (T1 := T) rfl ?_
    obtain ⟨hg, hq⟩ := hq
    refine ev_pr rfl (ev_ldiv hg) ?_
    refine ev_seq 3 (ip' := 4) (loc' := [some (.int x0), some (.int x1), some (.long ((x2 * (((x0 - x1) + x4).toInt64)) / x4.toInt64)), none, some (.int (x4 + 1))]) (st' := []) (I1 := I) (T1 := T) rfl ?_
    exact hq
def t_X_ways_0 (E : MEnv) (I : II) (T : TT) (Q : QQ) (x0 : Int32) (x1 : Int32) : Prop := t_X_ways_4 E I T Q x0 x1 1 1
theorem s_X_ways_0 {E : MEnv} {I : II} {T : TT} {Q : QQ} {x0 : Int32} {x1 : Int32} (hq : t_X_ways_0 E I T Q x0 x1) : ev E 271 0 [some (.int x0), some (.int x1), none, none, none] [] I T Q := by
  unfold t_X_ways_0 at hq
  refine ev_seq 4 (ip' := 4) (loc' := [some (.int x0), some (.int x1), some (.long 1), none, some (.int 1)]) (st' := []) (I1 := I) (T1 := T) rfl ?_
  exact s_X_ways_4 (T := T) hq
/-- FeltHarness.weariest(I)I -/
def t_X_weariest_37 (E : MEnv) (I : II) (T : TT) (Q : QQ) (y0 : Int32) : Prop := Q (.inl (some (.int y0))) I T
theorem s_X_weariest_37 {E : MEnv} {I : II} {T : TT} {Q : QQ} {y0 : Int32} (hq : t_X_weariest_37 E I T Q y0) : ev E 281 37 [none, none, none, none, none] [(.int y0)] I T Q := by
  unfold t_X_weariest_37 at hq
  exact ev_ret rfl rfl hq
def t_X_weariest_30 (E : MEnv) (I : II) (T : TT) (Q : QQ) (x1 : Int32) (x2 : Int32) (x3 : Int32) (x4 : Int32) : Prop := ev E 281 12 [some (.ref 0), some (.int x1), some (.int x2), some (.int x3), some (.int (x4 + 1))] [] I T Q
theorem s_X_weariest_30 {E : MEnv} {I : II} {T : TT} {Q : QQ} {x1 : Int32} {x2 : Int32} {x3 : Int32} {x4 : Int32} (hq : t_X_weariest_30 E I T Q x1 x2 x3 x4) : ev E 281 30 [some (.ref 0), some (.int x1), some (.int x2), some (.int x3), some (.int x4)] [] I T Q := by
  unfold t_X_weariest_30 at hq
  refine ev_seq 2 (ip' := 12) (loc' := [some (.ref 0), some (.int x1), some (.int x2), some (.int x3), some (.int (x4 + 1))]) (st' := []) (I1 := I) (T1 := T) rfl ?_
  exact hq
def t_X_weariest_12 (E : MEnv) (I : II) (T : TT) (Q : QQ) (x1 : Int32) (x2 : Int32) (x3 : Int32) (x4 : Int32) : Prop := ((I 3 5) ≤ x4 → ((x1 = 0 → (t_X_weariest_37 E I T Q x2)) ∧ (¬ (x1 = 0) → (t_X_weariest_37 E I T Q x3)))) ∧ (¬ ((I 3 5) ≤ x4) → (ev E 127 0 [some (.ref 28), some (.int x4)] [] I T (KI (fun v1 I1 T1 => (v1 ≤ x3 → (t_X_weariest_30 E I1 T1 Q x1 x2 x3 x4)) ∧ (¬ (v1 ≤ x3) → (ev E 127 0 [some (.ref 28), some (.int x4)] [] I1 T1 (KI (fun v2 I2 T2 => t_X_weariest_30 E I2 T2 Q x1 x4 v2 x4) (fun x I1 T1 => Q (.inr x) I1 T1))))) (fun x I1 T1 => Q (.inr x) I1 T1))))
theorem s_X_weariest_12 {E : MEnv} {I : II} {T : TT} {Q : QQ} {x1 : Int32} {x2 : Int32} {x3 : Int32} {x4 : Int32} (hq : t_X_weariest_12 E I T Q x1 x2 x3 x4) : ev E 281 12 [some (.ref 0), some (.int x1), some (.int x2), some (.int x3), some (.int x4)] [] I T Q := by
  unfold t_X_weariest_12 at hq
  refine ev_seq 4 (ip' := 16) (loc' := [some (.ref 0), some (.int x1), some (.int x2), some (.int x3), some (.int x4)]) (st' := [(.int (I 3 5)), (.int x4)]) (I1 := I) (T1 := T) rfl ?_
  refine ev_br (p := (I 3 5) ≤ x4) (a := 32) (b := 17) (st' := []) inferInstance rfl rfl (fun hb => ?_) (fun hb => ?_)
  · have hq := hq.1 hb
    refine ev_seq 1 (ip' := 33) (loc' := [some (.ref 0), some (.int x1), some (.int x2), some (.int x3), some (.int x4)]) (st' := [(.int x1)]) (I1 := I) (T1 := T) rfl ?_
    refine ev_br (p := x1 = 0) (a := 34) (b := 36) (st' := []) inferInstance rfl rfl (fun hb => ?_) (fun hb => ?_)
    · have hq := hq.1 hb
      refine ev_seq 2 (ip' := 37) (loc' := [some (.ref 0), some (.int x1), some (.int x2), some (.int x3), some (.int x4)]) (st' := [(.int x2)]) (I1 := I) (T1 := T) rfl ?_
      refine ev_fg [false, false, false, false, false] (loc' := [none, none, none, none, none]) rfl ?_
      exact s_X_weariest_37 (T := T) hq
    · have hq := hq.2 hb
      refine ev_seq 1 (ip' := 37) (loc' := [some (.ref 0), some (.int x1), some (.int x2), some (.int x3), some (.int x4)]) (st' := [(.int x3)]) (I1 := I) (T1 := T) rfl ?_
      refine ev_fg [false, false, false, false, false] (loc' := [none, none, none, none, none]) rfl ?_
      exact s_X_weariest_37 (T := T) hq
  · have hq := hq.2 hb
    refine ev_seq 3 (ip' := 20) (loc' := [some (.ref 0), some (.int x1), some (.int x2), some (.int x3), some (.int x4)]) (st' := [(.int x4), (.ref 28)]) (I1 := I) (T1 := T) rfl ?_
    refine ev_callI rfl rfl rfl (fun v1 I1 T1 hq => ?_) (fun x I1 T1 hq => ?_) hq
    · refine ev_seq 1 (ip' := 22) (loc' := [some (.ref 0), some (.int x1), some (.int x2), some (.int x3), some (.int x4)]) (st' := [(.int x3), (.int v1)]) (I1 := I1) (T1 := T1) rfl ?_
      refine ev_br (p := v1 ≤ x3) (a := 30) (b := 23) (st' := []) inferInstance rfl rfl (fun hb => ?_) (fun hb => ?_)
      · have hq := hq.1 hb
        exact s_X_weariest_30 (T := T1) hq
      · have hq := hq.2 hb
        refine ev_seq 5 (ip' := 28) (loc' := [some (.ref 0), some (.int x1), some (.int x4), some (.int x3), some (.int x4)]) (st' := [(.int x4), (.ref 28)]) (I1 := I1) (T1 := T1) rfl ?_
        refine ev_callI rfl rfl rfl (fun v2 I2 T2 hq => ?_) (fun x I1 T1 hq => ?_) hq
        · refine ev_seq 1 (ip' := 30) (loc' := [some (.ref 0), some (.int x1), some (.int x4), some (.int v2), some (.int x4)]) (st' := []) (I1 := I2) (T1 := T2) rfl ?_
          exact s_X_weariest_30 (T := T2) hq
        · exact ⟨by decide, hq⟩
    · exact ⟨by decide, hq⟩
def t_X_weariest_0 (E : MEnv) (I : II) (T : TT) (Q : QQ) (x1 : Int32) : Prop := ev E 27 0 [some (.int x1), some (.int 0), some (.int 1)] [] I T (KI (fun v1 I1 T1 => ev E 28 0 [some (.ref 0), some (.int v1)] [] I1 T1 (KV (fun I2 T2 => t_X_weariest_12 E I2 T2 Q x1 (-1) (-1) 0) (fun x I1 T1 => Q (.inr x) I1 T1))) (fun _ _ _ => False))
theorem s_X_weariest_0 {E : MEnv} {I : II} {T : TT} {Q : QQ} {x1 : Int32} (hq : t_X_weariest_0 E I T Q x1) : ev E 281 0 [some (.ref 0), some (.int x1), none, none, none] [] I T Q := by
  unfold t_X_weariest_0 at hq
  refine ev_seq 4 (ip' := 4) (loc' := [some (.ref 0), some (.int x1), none, none, none]) (st' := [(.int 1), (.int 0), (.int x1), (.ref 0)]) (I1 := I) (T1 := T) rfl ?_
  refine ev_callI rfl rfl rfl (fun v1 I1 T1 hq => ?_) (fun x I1 T1 hq => ?_) hq
  · refine ev_callV rfl rfl rfl (fun I2 T2 hq => ?_) (fun x I1 T1 hq => ?_) hq
    · refine ev_seq 6 (ip' := 12) (loc' := [some (.ref 0), some (.int x1), some (.int (-1)), some (.int (-1)), some (.int 0)]) (st' := []) (I1 := I2) (T1 := T2) rfl ?_
      exact s_X_weariest_12 (T := T2) hq
    · exact ⟨by decide, hq⟩
  · exact hq.elim
/-- FeltHarness.willing(I)I -/
def t_X_willing_25 (E : MEnv) (I : II) (T : TT) (Q : QQ) (x1 : Int32) (x2 : Int32) (x3 : Int32) : Prop := ev E 287 8 [some (.ref 0), some (.int x1), some (.int x2), some (.int (x3 + 1))] [] I T Q
theorem s_X_willing_25 {E : MEnv} {I : II} {T : TT} {Q : QQ} {x1 : Int32} {x2 : Int32} {x3 : Int32} (hq : t_X_willing_25 E I T Q x1 x2 x3) : ev E 287 25 [some (.ref 0), some (.int x1), some (.int x2), some (.int x3)] [] I T Q := by
  unfold t_X_willing_25 at hq
  refine ev_seq 2 (ip' := 8) (loc' := [some (.ref 0), some (.int x1), some (.int x2), some (.int (x3 + 1))]) (st' := []) (I1 := I) (T1 := T) rfl ?_
  exact hq
def t_X_willing_8 (E : MEnv) (I : II) (T : TT) (Q : QQ) (x1 : Int32) (x2 : Int32) (x3 : Int32) : Prop := ((I 3 5) ≤ x3 → (Q (.inl (some (.int x2))) I T)) ∧ (¬ ((I 3 5) ≤ x3) → (ev E 106 0 [some (.ref 28), some (.int x3), some (.int x1)] [] I T (KI (fun v1 I1 T1 => (v1 = 0 → (t_X_willing_25 E I1 T1 Q x1 x2 x3)) ∧ (¬ (v1 = 0) → (t_X_willing_25 E I1 T1 Q x1 (x2 ||| ((1 : Int32) <<< (x3 &&& 31))) x3))) (fun x I1 T1 => Q (.inr x) I1 T1))))
theorem s_X_willing_8 {E : MEnv} {I : II} {T : TT} {Q : QQ} {x1 : Int32} {x2 : Int32} {x3 : Int32} (hq : t_X_willing_8 E I T Q x1 x2 x3) : ev E 287 8 [some (.ref 0), some (.int x1), some (.int x2), some (.int x3)] [] I T Q := by
  unfold t_X_willing_8 at hq
  refine ev_seq 4 (ip' := 12) (loc' := [some (.ref 0), some (.int x1), some (.int x2), some (.int x3)]) (st' := [(.int (I 3 5)), (.int x3)]) (I1 := I) (T1 := T) rfl ?_
  refine ev_br (p := (I 3 5) ≤ x3) (a := 27) (b := 13) (st' := []) inferInstance rfl rfl (fun hb => ?_) (fun hb => ?_)
  · have hq := hq.1 hb
    refine ev_seq 1 (ip' := 28) (loc' := [some (.ref 0), some (.int x1), some (.int x2), some (.int x3)]) (st' := [(.int x2)]) (I1 := I) (T1 := T) rfl ?_
    exact ev_ret rfl rfl hq
  · have hq := hq.2 hb
    refine ev_seq 4 (ip' := 17) (loc' := [some (.ref 0), some (.int x1), some (.int x2), some (.int x3)]) (st' := [(.int x1), (.int x3), (.ref 28)]) (I1 := I) (T1 := T) rfl ?_
    refine ev_callI rfl rfl rfl (fun v1 I1 T1 hq => ?_) (fun x I1 T1 hq => ?_) hq
    · refine ev_br (p := v1 = 0) (a := 25) (b := 19) (st' := []) inferInstance rfl rfl (fun hb => ?_) (fun hb => ?_)
      · have hq := hq.1 hb
        exact s_X_willing_25 (T := T1) hq
      · have hq := hq.2 hb
        refine ev_seq 6 (ip' := 25) (loc' := [some (.ref 0), some (.int x1), some (.int (x2 ||| ((1 : Int32) <<< (x3 &&& 31)))), some (.int x3)]) (st' := []) (I1 := I1) (T1 := T1) rfl ?_
        exact s_X_willing_25 (T := T1) hq
    · exact ⟨by decide, hq⟩
def t_X_willing_0 (E : MEnv) (I : II) (T : TT) (Q : QQ) (x1 : Int32) : Prop := ev E 198 0 [some (.int x1)] [] I T (KI (fun v1 I1 T1 => ev E 28 0 [some (.ref 0), some (.int v1)] [] I1 T1 (KV (fun I2 T2 => t_X_willing_8 E I2 T2 Q x1 0 0) (fun x I1 T1 => Q (.inr x) I1 T1))) (fun _ _ _ => False))
theorem s_X_willing_0 {E : MEnv} {I : II} {T : TT} {Q : QQ} {x1 : Int32} (hq : t_X_willing_0 E I T Q x1) : ev E 287 0 [some (.ref 0), some (.int x1), none, none] [] I T Q := by
  unfold t_X_willing_0 at hq
  refine ev_seq 2 (ip' := 2) (loc' := [some (.ref 0), some (.int x1), none, none]) (st' := [(.int x1), (.ref 0)]) (I1 := I) (T1 := T) rfl ?_
  refine ev_callI rfl rfl rfl (fun v1 I1 T1 hq => ?_) (fun x I1 T1 hq => ?_) hq
  · refine ev_callV rfl rfl rfl (fun I2 T2 hq => ?_) (fun x I1 T1 hq => ?_) hq
    · refine ev_seq 4 (ip' := 8) (loc' := [some (.ref 0), some (.int x1), some (.int 0), some (.int 0)]) (st' := []) (I1 := I2) (T1 := T2) rfl ?_
      exact s_X_willing_8 (T := T2) hq
    · exact ⟨by decide, hq⟩
  · exact hq.elim
/-- FeltHarness.within(III)Z -/
def t_X_within_9 (E : MEnv) (I : II) (T : TT) (Q : QQ) (y0 : Int32) : Prop := (y0 = 0 ∨ y0 = 1) ∧ Q (.inl (some (.int y0))) I T
theorem s_X_within_9 {E : MEnv} {I : II} {T : TT} {Q : QQ} {y0 : Int32} (hq : t_X_within_9 E I T Q y0) : ev E 27 9 [none, none, none] [(.int y0)] I T Q := by
  unfold t_X_within_9 at hq
  exact ev_retb rfl rfl hq.1 hq.2
def t_X_within_8 (E : MEnv) (I : II) (T : TT) (Q : QQ) : Prop := t_X_within_9 E I T Q 0
theorem s_X_within_8 {E : MEnv} {I : II} {T : TT} {Q : QQ} (hq : t_X_within_8 E I T Q) : ev E 27 8 [none, none, none] [] I T Q := by
  unfold t_X_within_8 at hq
  refine ev_seq 1 (ip' := 9) (loc' := [none, none, none]) (st' := [(.int 0)]) (I1 := I) (T1 := T) rfl ?_
  exact s_X_within_9 (T := T) hq
def t_X_within_0 (E : MEnv) (I : II) (T : TT) (Q : QQ) (x0 : Int32) (x1 : Int32) (x2 : Int32) : Prop := (x0 < x1 → (t_X_within_8 E I T Q )) ∧ (¬ (x0 < x1) → ((x2 < x0 → (t_X_within_8 E I T Q )) ∧ (¬ (x2 < x0) → (t_X_within_9 E I T Q 1))))
theorem s_X_within_0 {E : MEnv} {I : II} {T : TT} {Q : QQ} {x0 : Int32} {x1 : Int32} {x2 : Int32} (hq : t_X_within_0 E I T Q x0 x1 x2) : ev E 27 0 [some (.int x0), some (.int x1), some (.int x2)] [] I T Q := by
  unfold t_X_within_0 at hq
  refine ev_seq 2 (ip' := 2) (loc' := [some (.int x0), some (.int x1), some (.int x2)]) (st' := [(.int x1), (.int x0)]) (I1 := I) (T1 := T) rfl ?_
  refine ev_br (p := x0 < x1) (a := 8) (b := 3) (st' := []) inferInstance rfl rfl (fun hb => ?_) (fun hb => ?_)
  · have hq := hq.1 hb
    refine ev_fg [false, false, false] (loc' := [none, none, none]) rfl ?_
    exact s_X_within_8 (T := T) hq
  · have hq := hq.2 hb
    refine ev_seq 2 (ip' := 5) (loc' := [some (.int x0), some (.int x1), some (.int x2)]) (st' := [(.int x2), (.int x0)]) (I1 := I) (T1 := T) rfl ?_
    refine ev_br (p := x2 < x0) (a := 8) (b := 6) (st' := []) inferInstance rfl rfl (fun hb => ?_) (fun hb => ?_)
    · have hq := hq.1 hb
      refine ev_fg [false, false, false] (loc' := [none, none, none]) rfl ?_
      exact s_X_within_8 (T := T) hq
    · have hq := hq.2 hb
      refine ev_seq 2 (ip' := 9) (loc' := [some (.int x0), some (.int x1), some (.int x2)]) (st' := [(.int 1)]) (I1 := I) (T1 := T) rfl ?_
      refine ev_fg [false, false, false] (loc' := [none, none, none]) rfl ?_
      exact s_X_within_9 (T := T) hq
/-- FeltHarness.work(I)I -/
def t_X_work_0 (E : MEnv) (I : II) (T : TT) (Q : QQ) (x1 : Int32) : Prop := ev E 26 0 [some (.ref 0), some (.int x1), some (.int 150)] [] I T (KV (fun I1 T1 => ((I1 32 3) < 16 → (ev E 29 0 [some (.ref 1), some (.int x1)] [] I1 T1 (KV (fun I2 T2 => ev E 96 0 [some (.ref 23), some (.ref 1), some (.int (I2 3 5))] [] I2 T2 (KV (fun I3 T3 => ev E 31 0 [some (.ref 1)] [] I3 T3 (KI (fun v4 I4 T4 => (v4 = 0 → (Q (.inl (some (.int ((I4 1 5) - 10)))) I4 T4)) ∧ (¬ (v4 = 0) → (ev E 53 0 [some (.ref 36)] [] I4 T4 (KV (fun I5 T5 => ev E 99 0 [some (.ref 32), some (.ref 28)] [] I5 T5 (KV (fun I6 T6 => ev E 101 0 [some (.ref 23)] [] I6 T6 (KV (fun I7 T7 => ev E 102 0 [some (.ref 23), some (.ref 28), some (.int 0), some (.int (I7 23 5)), some (.int 0), none, none] [] I7 T7 (KV (fun I8 T8 => Q (.inl (some (.int ((m_up I8 0 13 (I8 23 8)) 23 7)))) (m_up I8 0 13 (I8 23 8)) T8) (fun _ _ _ => False))) (fun x I1 T1 => Q (.inr x) I1 T1))) (fun x I1 T1 => Q (.inr x) I1 T1))) (fun x I1 T1 => Q (.inr x) I1 T1))))) (fun x I1 T1 => Q (.inr x) I1 T1))) (fun x I1 T1 => Q (.inr x) I1 T1))) (fun x I1 T1 => Q (.inr x) I1 T1)))) ∧ (¬ ((I1 32 3) < 16) → (ev E 29 0 [some (.ref 1), some (.int 0)] [] I1 T1 (KV (fun I9 T9 => Q (.inl (some (.int (-20)))) I9 T9) (fun x I1 T1 => Q (.inr x) I1 T1))))) (fun x I1 T1 => Q (.inr x) I1 T1))
theorem s_X_work_0 {E : MEnv} {I : II} {T : TT} {Q : QQ} {x1 : Int32} (hq : t_X_work_0 E I T Q x1) : ev E 95 0 [some (.ref 0), some (.int x1)] [] I T Q := by
  unfold t_X_work_0 at hq
  refine ev_seq 3 (ip' := 3) (loc' := [some (.ref 0), some (.int x1)]) (st' := [(.int 150), (.int x1), (.ref 0)]) (I1 := I) (T1 := T) rfl ?_
  refine ev_callV rfl rfl rfl (fun I1 T1 hq => ?_) (fun x I1 T1 hq => ?_) hq
  · refine ev_seq 4 (ip' := 8) (loc' := [some (.ref 0), some (.int x1)]) (st' := [(.int 16), (.int (I1 32 3))]) (I1 := I1) (T1 := T1) rfl ?_
    refine ev_br (p := (I1 32 3) < 16) (a := 15) (b := 9) (st' := []) inferInstance rfl rfl (fun hb => ?_) (fun hb => ?_)
    · have hq := hq.1 hb
      refine ev_seq 3 (ip' := 18) (loc' := [some (.ref 0), some (.int x1)]) (st' := [(.int x1), (.ref 1)]) (I1 := I1) (T1 := T1) rfl ?_
      refine ev_callV rfl rfl rfl (fun I2 T2 hq => ?_) (fun x I1 T1 hq => ?_) hq
      · refine ev_seq 7 (ip' := 26) (loc' := [some (.ref 0), some (.int x1)]) (st' := [(.int (I2 3 5)), (.ref 1), (.ref 23)]) (I1 := I2) (T1 := T2) rfl ?_
        refine ev_callV rfl rfl rfl (fun I3 T3 hq => ?_) (fun x I1 T1 hq => ?_) hq
        · refine ev_seq 2 (ip' := 29) (loc' := [some (.ref 0), some (.int x1)]) (st' := [(.ref 1)]) (I1 := I3) (T1 := T3) rfl ?_
          refine ev_callI rfl rfl rfl (fun v4 I4 T4 hq => ?_) (fun x I1 T1 hq => ?_) hq
          · refine ev_br (p := v4 = 0) (a := 31) (b := 37) (st' := []) inferInstance rfl rfl (fun hb => ?_) (fun hb => ?_)
            · have hq := hq.1 hb
              refine ev_seq 5 (ip' := 36) (loc' := [some (.ref 0), some (.int x1)]) (st' := [(.int ((I4 1 5) - 10))]) (I1 := I4) (T1 := T4) rfl ?_
              exact ev_ret rfl rfl hq
            · have hq := hq.2 hb
              refine ev_seq 2 (ip' := 39) (loc' := [some (.ref 0), some (.int x1)]) (st' := [(.ref 36)]) (I1 := I4) (T1 := T4) rfl ?_
              refine ev_callV rfl rfl rfl (fun I5 T5 hq => ?_) (fun x I1 T1 hq => ?_) hq
              · refine ev_seq 4 (ip' := 44) (loc' := [some (.ref 0), some (.int x1)]) (st' := [(.ref 28), (.ref 32)]) (I1 := I5) (T1 := T5) rfl ?_
                refine ev_callV rfl rfl rfl (fun I6 T6 hq => ?_) (fun x I1 T1 hq => ?_) hq
                · refine ev_seq 2 (ip' := 47) (loc' := [some (.ref 0), some (.int x1)]) (st' := [(.ref 23)]) (I1 := I6) (T1 := T6) rfl ?_
                  refine ev_callV rfl rfl rfl (fun I7 T7 hq => ?_) (fun x I1 T1 hq => ?_) hq
                  · refine ev_seq 9 (ip' := 57) (loc' := [some (.ref 0), some (.int x1)]) (st' := [(.int 0), (.int (I7 23 5)), (.int 0), (.ref 28), (.ref 23)]) (I1 := I7) (T1 := T7) rfl ?_
                    refine ev_callV rfl rfl rfl (fun I8 T8 hq => ?_) (fun x I1 T1 hq => ?_) hq
                    · refine ev_seq 8 (ip' := 66) (loc' := [some (.ref 0), some (.int x1)]) (st' := [(.int ((m_up I8 0 13 (I8 23 8)) 23 7))]) (I1 := m_up I8 0 13 (I8 23 8)) (T1 := T8) rfl ?_
                      exact ev_ret rfl rfl hq
                    · exact hq.elim
                  · exact ⟨by decide, hq⟩
                · exact ⟨by decide, hq⟩
              · exact ⟨by decide, hq⟩
          · exact ⟨by decide, hq⟩
        · exact ⟨by decide, hq⟩
      · exact ⟨by decide, hq⟩
    · have hq := hq.2 hb
      refine ev_seq 3 (ip' := 12) (loc' := [some (.ref 0), some (.int x1)]) (st' := [(.int 0), (.ref 1)]) (I1 := I1) (T1 := T1) rfl ?_
      refine ev_callV rfl rfl rfl (fun I9 T9 hq => ?_) (fun x I1 T1 hq => ?_) hq
      · refine ev_seq 1 (ip' := 14) (loc' := [some (.ref 0), some (.int x1)]) (st' := [(.int (-20))]) (I1 := I9) (T1 := T9) rfl ?_
        exact ev_ret rfl rfl hq
      · exact ⟨by decide, hq⟩
  · exact ⟨by decide, hq⟩
/-- FeltHarness.would(IIIIIIII)I -/
def t_X_would_42 (E : MEnv) (I : II) (T : TT) (Q : QQ) (x1 : Int32) (x2 : Int32) (x3 : Int32) (x4 : Int32) (x5 : Int32) (x6 : Int32) (x7 : Int32) (x8 : Int32) (y1 : Int32) : Prop := ev E 28 0 [some (.ref 0), some (.int y1)] [] I T (KV (fun I1 T1 => ev E 128 0 [some (.ref 15), some (.int x1), some (.int x2), some (.int x3), some (.int x4)] [] I1 T1 (KV (fun I2 T2 => ev E 129 0 [some (.ref 15), some (.int x5), some (.int x6), some (.int x7), some (.int x8)] [] I2 T2 (KV (fun I3 T3 => ev E 130 0 [some (.ref 15), none, none, none] [] I3 T3 (KI (fun v4 I4 T4 => Q (.inl (some (.int v4))) I4 T4) (fun x I1 T1 => Q (.inr x) I1 T1))) (fun x I1 T1 => Q (.inr x) I1 T1))) (fun x I1 T1 => Q (.inr x) I1 T1))) (fun x I1 T1 => Q (.inr x) I1 T1))
theorem s_X_would_42 {E : MEnv} {I : II} {T : TT} {Q : QQ} {x1 : Int32} {x2 : Int32} {x3 : Int32} {x4 : Int32} {x5 : Int32} {x6 : Int32} {x7 : Int32} {x8 : Int32} {y1 : Int32} (hq : t_X_would_42 E I T Q x1 x2 x3 x4 x5 x6 x7 x8 y1) : ev E 205 42 [some (.ref 0), some (.int x1), some (.int x2), some (.int x3), some (.int x4), some (.int x5), some (.int x6), some (.int x7), some (.int x8)] [(.int y1), (.ref 0)] I T Q := by
  unfold t_X_would_42 at hq
  refine ev_callV rfl rfl rfl (fun I1 T1 hq => ?_) (fun x I1 T1 hq => ?_) hq
  · refine ev_seq 6 (ip' := 49) (loc' := [some (.ref 0), some (.int x1), some (.int x2), some (.int x3), some (.int x4), some (.int x5), some (.int x6), some (.int x7), some (.int x8)]) (st' := [(.int x4), (.int x3), (.int x2), (.int x1), (.ref 15)]) (I1 := I1) (T1 := T1) rfl ?_
    refine ev_callV rfl rfl rfl (fun I2 T2 hq => ?_) (fun x I1 T1 hq => ?_) hq
    · refine ev_seq 6 (ip' := 56) (loc' := [some (.ref 0), some (.int x1), some (.int x2), some (.int x3), some (.int x4), some (.int x5), some (.int x6), some (.int x7), some (.int x8)]) (st' := [(.int x8), (.int x7), (.int x6), (.int x5), (.ref 15)]) (I1 := I2) (T1 := T2) rfl ?_
      refine ev_callV rfl rfl rfl (fun I3 T3 hq => ?_) (fun x I1 T1 hq => ?_) hq
      · refine ev_seq 2 (ip' := 59) (loc' := [some (.ref 0), some (.int x1), some (.int x2), some (.int x3), some (.int x4), some (.int x5), some (.int x6), some (.int x7), some (.int x8)]) (st' := [(.ref 15)]) (I1 := I3) (T1 := T3) rfl ?_
        refine ev_callI rfl rfl rfl (fun v4 I4 T4 hq => ?_) (fun x I1 T1 hq => ?_) hq
        · exact ev_ret rfl rfl hq
        · exact ⟨by decide, hq⟩
      · exact ⟨by decide, hq⟩
    · exact ⟨by decide, hq⟩
  · exact ⟨by decide, hq⟩
def t_X_would_41 (E : MEnv) (I : II) (T : TT) (Q : QQ) (x1 : Int32) (x2 : Int32) (x3 : Int32) (x4 : Int32) (x5 : Int32) (x6 : Int32) (x7 : Int32) (x8 : Int32) : Prop := t_X_would_42 E I T Q x1 x2 x3 x4 x5 x6 x7 x8 0
theorem s_X_would_41 {E : MEnv} {I : II} {T : TT} {Q : QQ} {x1 : Int32} {x2 : Int32} {x3 : Int32} {x4 : Int32} {x5 : Int32} {x6 : Int32} {x7 : Int32} {x8 : Int32} (hq : t_X_would_41 E I T Q x1 x2 x3 x4 x5 x6 x7 x8) : ev E 205 41 [some (.ref 0), some (.int x1), some (.int x2), some (.int x3), some (.int x4), some (.int x5), some (.int x6), some (.int x7), some (.int x8)] [(.ref 0)] I T Q := by
  unfold t_X_would_41 at hq
  refine ev_seq 1 (ip' := 42) (loc' := [some (.ref 0), some (.int x1), some (.int x2), some (.int x3), some (.int x4), some (.int x5), some (.int x6), some (.int x7), some (.int x8)]) (st' := [(.int 0), (.ref 0)]) (I1 := I) (T1 := T) rfl ?_
  exact s_X_would_42 (T := T) hq
def t_X_would_0 (E : MEnv) (I : II) (T : TT) (Q : QQ) (x1 : Int32) (x2 : Int32) (x3 : Int32) (x4 : Int32) (x5 : Int32) (x6 : Int32) (x7 : Int32) (x8 : Int32) : Prop := ev E 27 0 [some (.int x1), some (.int 1), some (.int 20)] [] I T (KI (fun v1 I1 T1 => (v1 = 0 → (t_X_would_41 E I1 T1 Q x1 x2 x3 x4 x5 x6 x7 x8)) ∧ (¬ (v1 = 0) → (ev E 27 0 [some (.int x2), some (.int 0), some (.int 9)] [] I1 T1 (KI (fun v2 I2 T2 => (v2 = 0 → (t_X_would_41 E I2 T2 Q x1 x2 x3 x4 x5 x6 x7 x8)) ∧ (¬ (v2 = 0) → (ev E 27 0 [some (.int x3), some (.int 0), some (.int 9)] [] I2 T2 (KI (fun v3 I3 T3 => (v3 = 0 → (t_X_would_41 E I3 T3 Q x1 x2 x3 x4 x5 x6 x7 x8)) ∧ (¬ (v3 = 0) → (ev E 27 0 [some (.int x4), some (.int 0), some (.int 999)] [] I3 T3 (KI (fun v4 I4 T4 => (v4 = 0 → (t_X_would_41 E I4 T4 Q x1 x2 x3 x4 x5 x6 x7 x8)) ∧ (¬ (v4 = 0) → (ev E 198 0 [some (.int x5)] [] I4 T4 (KI (fun v5 I5 T5 => (v5 = 0 → (t_X_would_41 E I5 T5 Q x1 x2 x3 x4 x5 x6 x7 x8)) ∧ (¬ (v5 = 0) → (ev E 27 0 [some (.int x6), some (.int 0), some (.int 6)] [] I5 T5 (KI (fun v6 I6 T6 => (v6 = 0 → (t_X_would_41 E I6 T6 Q x1 x2 x3 x4 x5 x6 x7 x8)) ∧ (¬ (v6 = 0) → (ev E 27 0 [some (.int x7), some (.int 0), some (.int 4)] [] I6 T6 (KI (fun v7 I7 T7 => (v7 = 0 → (t_X_would_41 E I7 T7 Q x1 x2 x3 x4 x5 x6 x7 x8)) ∧ (¬ (v7 = 0) → (ev E 27 0 [some (.int x8), some (.int 0), some (.int 900)] [] I7 T7 (KI (fun v8 I8 T8 => (v8 = 0 → (t_X_would_41 E I8 T8 Q x1 x2 x3 x4 x5 x6 x7 x8)) ∧ (¬ (v8 = 0) → (t_X_would_42 E I8 T8 Q x1 x2 x3 x4 x5 x6 x7 x8 1))) (fun _ _ _ => False))))) (fun _ _ _ => False))))) (fun _ _ _ => False))))) (fun _ _ _ => False))))) (fun _ _ _ => False))))) (fun _ _ _ => False))))) (fun _ _ _ => False))))) (fun _ _ _ => False))
theorem s_X_would_0 {E : MEnv} {I : II} {T : TT} {Q : QQ} {x1 : Int32} {x2 : Int32} {x3 : Int32} {x4 : Int32} {x5 : Int32} {x6 : Int32} {x7 : Int32} {x8 : Int32} (hq : t_X_would_0 E I T Q x1 x2 x3 x4 x5 x6 x7 x8) : ev E 205 0 [some (.ref 0), some (.int x1), some (.int x2), some (.int x3), some (.int x4), some (.int x5), some (.int x6), some (.int x7), some (.int x8)] [] I T Q := by
  unfold t_X_would_0 at hq
  refine ev_seq 4 (ip' := 4) (loc' := [some (.ref 0), some (.int x1), some (.int x2), some (.int x3), some (.int x4), some (.int x5), some (.int x6), some (.int x7), some (.int x8)]) (st' := [(.int 20), (.int 1), (.int x1), (.ref 0)]) (I1 := I) (T1 := T) rfl ?_
  refine ev_callI rfl rfl rfl (fun v1 I1 T1 hq => ?_) (fun x I1 T1 hq => ?_) hq
  · refine ev_br (p := v1 = 0) (a := 41) (b := 6) (st' := [(.ref 0)]) inferInstance rfl rfl (fun hb => ?_) (fun hb => ?_)
    · have hq := hq.1 hb
      exact s_X_would_41 (T := T1) hq
    · have hq := hq.2 hb
      refine ev_seq 3 (ip' := 9) (loc' := [some (.ref 0), some (.int x1), some (.int x2), some (.int x3), some (.int x4), some (.int x5), some (.int x6), some (.int x7), some (.int x8)]) (st' := [(.int 9), (.int 0), (.int x2), (.ref 0)]) (I1 := I1) (T1 := T1) rfl ?_
      refine ev_callI rfl rfl rfl (fun v2 I2 T2 hq => ?_) (fun x I1 T1 hq => ?_) hq
      · refine ev_br (p := v2 = 0) (a := 41) (b := 11) (st' := [(.ref 0)]) inferInstance rfl rfl (fun hb => ?_) (fun hb => ?_)
        · have hq := hq.1 hb
          exact s_X_would_41 (T := T2) hq
        · have hq := hq.2 hb
          refine ev_seq 3 (ip' := 14) (loc' := [some (.ref 0), some (.int x1), some (.int x2), some (.int x3), some (.int x4), some (.int x5), some (.int x6), some (.int x7), some (.int x8)]) (st' := [(.int 9), (.int 0), (.int x3), (.ref 0)]) (I1 := I2) (T1 := T2) rfl ?_
          refine ev_callI rfl rfl rfl (fun v3 I3 T3 hq => ?_) (fun x I1 T1 hq => ?_) hq
          · refine ev_br (p := v3 = 0) (a := 41) (b := 16) (st' := [(.ref 0)]) inferInstance rfl rfl (fun hb => ?_) (fun hb => ?_)
            · have hq := hq.1 hb
              exact s_X_would_41 (T := T3) hq
            · have hq := hq.2 hb
              refine ev_seq 3 (ip' := 19) (loc' := [some (.ref 0), some (.int x1), some (.int x2), some (.int x3), some (.int x4), some (.int x5), some (.int x6), some (.int x7), some (.int x8)]) (st' := [(.int 999), (.int 0), (.int x4), (.ref 0)]) (I1 := I3) (T1 := T3) rfl ?_
              refine ev_callI rfl rfl rfl (fun v4 I4 T4 hq => ?_) (fun x I1 T1 hq => ?_) hq
              · refine ev_br (p := v4 = 0) (a := 41) (b := 21) (st' := [(.ref 0)]) inferInstance rfl rfl (fun hb => ?_) (fun hb => ?_)
                · have hq := hq.1 hb
                  exact s_X_would_41 (T := T4) hq
                · have hq := hq.2 hb
                  refine ev_seq 1 (ip' := 22) (loc' := [some (.ref 0), some (.int x1), some (.int x2), some (.int x3), some (.int x4), some (.int x5), some (.int x6), some (.int x7), some (.int x8)]) (st' := [(.int x5), (.ref 0)]) (I1 := I4) (T1 := T4) rfl ?_
                  refine ev_callI rfl rfl rfl (fun v5 I5 T5 hq => ?_) (fun x I1 T1 hq => ?_) hq
                  · refine ev_br (p := v5 = 0) (a := 41) (b := 24) (st' := [(.ref 0)]) inferInstance rfl rfl (fun hb => ?_) (fun hb => ?_)
                    · have hq := hq.1 hb
                      exact s_X_would_41 (T := T5) hq
                    · have hq := hq.2 hb
                      refine ev_seq 3 (ip' := 27) (loc' := [some (.ref 0), some (.int x1), some (.int x2), some (.int x3), some (.int x4), some (.int x5), some (.int x6), some (.int x7), some (.int x8)]) (st' := [(.int 6), (.int 0), (.int x6), (.ref 0)]) (I1 := I5) (T1 := T5) rfl ?_
                      refine ev_callI rfl rfl rfl (fun v6 I6 T6 hq => ?_) (fun x I1 T1 hq => ?_) hq
                      · refine ev_br (p := v6 = 0) (a := 41) (b := 29) (st' := [(.ref 0)]) inferInstance rfl rfl (fun hb => ?_) (fun hb => ?_)
                        · have hq := hq.1 hb
                          exact s_X_would_41 (T := T6) hq
                        · have hq := hq.2 hb
                          refine ev_seq 3 (ip' := 32) (loc' := [some (.ref 0), some (.int x1), some (.int x2), some (.int x3), some (.int x4), some (.int x5), some (.int x6), some (.int x7), some (.int x8)]) (st' := [(.int 4), (.int 0), (.int x7), (.ref 0)]) (I1 := I6) (T1 := T6) rfl ?_
                          refine ev_callI rfl rfl rfl (fun v7 I7 T7 hq => ?_) (fun x I1 T1 hq => ?_) hq
                          · refine ev_br (p := v7 = 0) (a := 41) (b := 34) (st' := [(.ref 0)]) inferInstance rfl rfl (fun hb => ?_) (fun hb => ?_)
                            · have hq := hq.1 hb
                              exact s_X_would_41 (T := T7) hq
                            · have hq := hq.2 hb
                              refine ev_seq 3 (ip' := 37) (loc' := [some (.ref 0), some (.int x1), some (.int x2), some (.int x3), some (.int x4), some (.int x5), some (.int x6), some (.int x7), some (.int x8)]) (st' := [(.int 900), (.int 0), (.int x8), (.ref 0)]) (I1 := I7) (T1 := T7) rfl ?_
                              refine ev_callI rfl rfl rfl (fun v8 I8 T8 hq => ?_) (fun x I1 T1 hq => ?_) hq
                              · refine ev_br (p := v8 = 0) (a := 41) (b := 39) (st' := [(.ref 0)]) inferInstance rfl rfl (fun hb => ?_) (fun hb => ?_)
                                · have hq := hq.1 hb
                                  exact s_X_would_41 (T := T8) hq
                                · have hq := hq.2 hb
                                  refine ev_seq 2 (ip' := 42) (loc' := [some (.ref 0), some (.int x1), some (.int x2), some (.int x3), some (.int x4), some (.int x5), some (.int x6), some (.int x7), some (.int x8)]) (st' := [(.int 1), (.ref 0)]) (I1 := I8) (T1 := T8) rfl ?_
                                  exact s_X_would_42 (T := T8) hq
                              · exact hq.elim
                          · exact hq.elim
                      · exact hq.elim
                  · exact hq.elim
              · exact hq.elim
          · exact hq.elim
      · exact hq.elim
  · exact hq.elim
