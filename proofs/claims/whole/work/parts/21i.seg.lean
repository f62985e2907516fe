/-- FeltHarnessLaw.feeling(LFeltHarness;II[J)I -/
def t_W_feeling_10 (E : MEnv) (I : II) (T : TT) (Q : QQ) : Prop := Q (.inl (some (.int 1))) I T
theorem s_W_feeling_10 {E : MEnv} {I : II} {T : TT} {Q : QQ} (hq : t_W_feeling_10 E I T Q) : ev E 186 10 [none, none, none, none, none] [] I T Q := by
  unfold t_W_feeling_10 at hq
  refine ev_seq 1 (ip' := 11) (loc' := [none, none, none, none, none]) (st' := [(.int 1)]) (I1 := I) (T1 := T) rfl ?_
  exact ev_ret rfl rfl hq
def t_W_feeling_13 (E : MEnv) (I : II) (T : TT) (Q : QQ) : Prop := Q (.inl (some (.int 2))) I T
theorem s_W_feeling_13 {E : MEnv} {I : II} {T : TT} {Q : QQ} (hq : t_W_feeling_13 E I T Q) : ev E 186 13 [none, none, none, none, none] [] I T Q := by
  unfold t_W_feeling_13 at hq
  refine ev_seq 1 (ip' := 14) (loc' := [none, none, none, none, none]) (st' := [(.int 2)]) (I1 := I) (T1 := T) rfl ?_
  exact ev_ret rfl rfl hq
def t_W_feeling_0 (E : MEnv) (I : II) (T : TT) (Q : QQ) (x1 : Int32) (x2 : Int32) : Prop := ev E 187 0 [some (.ref 0), some (.int x1), some (.int x2)] [] I T (KI (fun v1 I1 T1 => Q (.inl (some (.int 0))) I1 (m_up T1.1 536 0 v1.toInt64, T1.2)) (fun x I1 T1 => (x = 0 ∧ t_W_feeling_10 E I1 T1 Q) ∨ (x = 1 ∧ t_W_feeling_13 E I1 T1 Q)))
theorem s_W_feeling_0 {E : MEnv} {I : II} {T : TT} {Q : QQ} {x1 : Int32} {x2 : Int32} (hq : t_W_feeling_0 E I T Q x1 x2) : ev E 186 0 [some (.ref 0), some (.int x1), some (.int x2), some (.ref 536), none] [] I T Q := by
  unfold t_W_feeling_0 at hq
  refine ev_seq 5 (ip' := 5) (loc' := [some (.ref 0), some (.int x1), some (.int x2), some (.ref 536), none]) (st' := [(.int x2), (.int x1), (.ref 0), (.int 0), (.ref 536)]) (I1 := I) (T1 := T) rfl ?_
  refine ev_callI rfl rfl rfl (fun v1 I1 T1 hq => ?_) (fun x I1 T1 hq => ?_) hq
  · refine ev_seq 4 (ip' := 16) (loc' := [some (.ref 0), some (.int x1), some (.int x2), some (.ref 536), none]) (st' := [(.int 0)]) (I1 := I1) (T1 := (m_up T1.1 536 0 v1.toInt64, T1.2)) rfl ?_
    exact ev_ret rfl rfl hq
  · rcases hq with ⟨rfl, hq⟩ | ⟨rfl, hq⟩
    · exact ⟨by decide, s_W_feeling_10 hq⟩
    · exact ⟨by decide, s_W_feeling_13 hq⟩
/-- FeltHarnessLaw.fits(LFeltHarness;I[J)I -/
def t_W_fits_9 (E : MEnv) (I : II) (T : TT) (Q : QQ) : Prop := Q (.inl (some (.int 1))) I T
theorem s_W_fits_9 {E : MEnv} {I : II} {T : TT} {Q : QQ} (hq : t_W_fits_9 E I T Q) : ev E 247 9 [none, none, none, none] [] I T Q := by
  unfold t_W_fits_9 at hq
  refine ev_seq 1 (ip' := 10) (loc' := [none, none, none, none]) (st' := [(.int 1)]) (I1 := I) (T1 := T) rfl ?_
  exact ev_ret rfl rfl hq
def t_W_fits_0 (E : MEnv) (I : II) (T : TT) (Q : QQ) (x1 : Int32) : Prop := ev E 248 0 [some (.ref 0), some (.int x1)] [] I T (KI (fun v1 I1 T1 => Q (.inl (some (.int 0))) I1 (m_up T1.1 536 0 v1.toInt64, T1.2)) (fun x I1 T1 => (x = 1 ∧ t_W_fits_9 E I1 T1 Q)))
theorem s_W_fits_0 {E : MEnv} {I : II} {T : TT} {Q : QQ} {x1 : Int32} (hq : t_W_fits_0 E I T Q x1) : ev E 247 0 [some (.ref 0), some (.int x1), some (.ref 536), none] [] I T Q := by
  unfold t_W_fits_0 at hq
  refine ev_seq 4 (ip' := 4) (loc' := [some (.ref 0), some (.int x1), some (.ref 536), none]) (st' := [(.int x1), (.ref 0), (.int 0), (.ref 536)]) (I1 := I) (T1 := T) rfl ?_
  refine ev_callI rfl rfl rfl (fun v1 I1 T1 hq => ?_) (fun x I1 T1 hq => ?_) hq
  · refine ev_seq 4 (ip' := 12) (loc' := [some (.ref 0), some (.int x1), some (.ref 536), none]) (st' := [(.int 0)]) (I1 := I1) (T1 := (m_up T1.1 536 0 v1.toInt64, T1.2)) rfl ?_
    exact ev_ret rfl rfl hq
  · obtain ⟨rfl, hq⟩ := hq
    exact ⟨by decide, s_W_fits_9 hq⟩
/-- FeltHarnessLaw.force(LFeltHarness;II[J)I -/
def t_W_force_10 (E : MEnv) (I : II) (T : TT) (Q : QQ) : Prop := Q (.inl (some (.int 1))) I T
theorem s_W_force_10 {E : MEnv} {I : II} {T : TT} {Q : QQ} (hq : t_W_force_10 E I T Q) : ev E 201 10 [none, none, none, none, none] [] I T Q := by
  unfold t_W_force_10 at hq
  refine ev_seq 1 (ip' := 11) (loc' := [none, none, none, none, none]) (st' := [(.int 1)]) (I1 := I) (T1 := T) rfl ?_
  exact ev_ret rfl rfl hq
def t_W_force_13 (E : MEnv) (I : II) (T : TT) (Q : QQ) : Prop := Q (.inl (some (.int 2))) I T
theorem s_W_force_13 {E : MEnv} {I : II} {T : TT} {Q : QQ} (hq : t_W_force_13 E I T Q) : ev E 201 13 [none, none, none, none, none] [] I T Q := by
  unfold t_W_force_13 at hq
  refine ev_seq 1 (ip' := 14) (loc' := [none, none, none, none, none]) (st' := [(.int 2)]) (I1 := I) (T1 := T) rfl ?_
  exact ev_ret rfl rfl hq
def t_W_force_0 (E : MEnv) (I : II) (T : TT) (Q : QQ) (x1 : Int32) (x2 : Int32) : Prop := ev E 202 0 [some (.ref 0), some (.int x1), some (.int x2)] [] I T (KI (fun v1 I1 T1 => Q (.inl (some (.int 0))) I1 (m_up T1.1 536 0 v1.toInt64, T1.2)) (fun x I1 T1 => (x = 0 ∧ t_W_force_10 E I1 T1 Q) ∨ (x = 1 ∧ t_W_force_13 E I1 T1 Q)))
theorem s_W_force_0 {E : MEnv} {I : II} {T : TT} {Q : QQ} {x1 : Int32} {x2 : Int32} (hq : t_W_force_0 E I T Q x1 x2) : ev E 201 0 [some (.ref 0), some (.int x1), some (.int x2), some (.ref 536), none] [] I T Q := by
  unfold t_W_force_0 at hq
  refine ev_seq 5 (ip' := 5) (loc' := [some (.ref 0), some (.int x1), some (.int x2), some (.ref 536), none]) (st' := [(.int x2), (.int x1), (.ref 0), (.int 0), (.ref 536)]) (I1 := I) (T1 := T) rfl ?_
  refine ev_callI rfl rfl rfl (fun v1 I1 T1 hq => ?_) (fun x I1 T1 hq => ?_) hq
  · refine ev_seq 4 (ip' := 16) (loc' := [some (.ref 0), some (.int x1), some (.int x2), some (.ref 536), none]) (st' := [(.int 0)]) (I1 := I1) (T1 := (m_up T1.1 536 0 v1.toInt64, T1.2)) rfl ?_
    exact ev_ret rfl rfl hq
  · rcases hq with ⟨rfl, hq⟩ | ⟨rfl, hq⟩
    · exact ⟨by decide, s_W_force_10 hq⟩
    · exact ⟨by decide, s_W_force_13 hq⟩
/-- FeltHarnessLaw.house(LFeltHarness;I[J)I -/
def t_W_house_9 (E : MEnv) (I : II) (T : TT) (Q : QQ) : Prop := Q (.inl (some (.int 1))) I T
theorem s_W_house_9 {E : MEnv} {I : II} {T : TT} {Q : QQ} (hq : t_W_house_9 E I T Q) : ev E 24 9 [none, none, none, none] [] I T Q := by
  unfold t_W_house_9 at hq
  refine ev_seq 1 (ip' := 10) (loc' := [none, none, none, none]) (st' := [(.int 1)]) (I1 := I) (T1 := T) rfl ?_
  exact ev_ret rfl rfl hq
def t_W_house_0 (E : MEnv) (I : II) (T : TT) (Q : QQ) (x1 : Int32) : Prop := ev E 25 0 [some (.ref 0), some (.int x1)] [] I T (KI (fun v1 I1 T1 => Q (.inl (some (.int 0))) I1 (m_up T1.1 536 0 v1.toInt64, T1.2)) (fun x I1 T1 => (x = 1 ∧ t_W_house_9 E I1 T1 Q)))
theorem s_W_house_0 {E : MEnv} {I : II} {T : TT} {Q : QQ} {x1 : Int32} (hq : t_W_house_0 E I T Q x1) : ev E 24 0 [some (.ref 0), some (.int x1), some (.ref 536), none] [] I T Q := by
  unfold t_W_house_0 at hq
  refine ev_seq 4 (ip' := 4) (loc' := [some (.ref 0), some (.int x1), some (.ref 536), none]) (st' := [(.int x1), (.ref 0), (.int 0), (.ref 536)]) (I1 := I) (T1 := T) rfl ?_
  refine ev_callI rfl rfl rfl (fun v1 I1 T1 hq => ?_) (fun x I1 T1 hq => ?_) hq
  · refine ev_seq 4 (ip' := 12) (loc' := [some (.ref 0), some (.int x1), some (.ref 536), none]) (st' := [(.int 0)]) (I1 := I1) (T1 := (m_up T1.1 536 0 v1.toInt64, T1.2)) rfl ?_
    exact ev_ret rfl rfl hq
  · obtain ⟨rfl, hq⟩ := hq
    exact ⟨by decide, s_W_house_9 hq⟩
/-- FeltHarnessLaw.law(LFeltHarness;I[J)I -/
def t_W_law77_9 (E : MEnv) (I : II) (T : TT) (Q : QQ) : Prop := Q (.inl (some (.int 1))) I T
theorem s_W_law77_9 {E : MEnv} {I : II} {T : TT} {Q : QQ} (hq : t_W_law77_9 E I T Q) : ev E 77 9 [none, none, none, none] [] I T Q := by
  unfold t_W_law77_9 at hq
  refine ev_seq 1 (ip' := 10) (loc' := [none, none, none, none]) (st' := [(.int 1)]) (I1 := I) (T1 := T) rfl ?_
  exact ev_ret rfl rfl hq
def t_W_law77_0 (E : MEnv) (I : II) (T : TT) (Q : QQ) (x1 : Int32) : Prop := ev E 78 0 [some (.ref 0), some (.int x1)] [] I T (KI (fun v1 I1 T1 => Q (.inl (some (.int 0))) I1 (m_up T1.1 536 0 v1.toInt64, T1.2)) (fun x I1 T1 => (x = 1 ∧ t_W_law77_9 E I1 T1 Q)))
theorem s_W_law77_0 {E : MEnv} {I : II} {T : TT} {Q : QQ} {x1 : Int32} (hq : t_W_law77_0 E I T Q x1) : ev E 77 0 [some (.ref 0), some (.int x1), some (.ref 536), none] [] I T Q := by
  unfold t_W_law77_0 at hq
  refine ev_seq 4 (ip' := 4) (loc' := [some (.ref 0), some (.int x1), some (.ref 536), none]) (st' := [(.int x1), (.ref 0), (.int 0), (.ref 536)]) (I1 := I) (T1 := T) rfl ?_
  refine ev_callI rfl rfl rfl (fun v1 I1 T1 hq => ?_) (fun x I1 T1 hq => ?_) hq
  · refine ev_seq 4 (ip' := 12) (loc' := [some (.ref 0), some (.int x1), some (.ref 536), none]) (st' := [(.int 0)]) (I1 := I1) (T1 := (m_up T1.1 536 0 v1.toInt64, T1.2)) rfl ?_
    exact ev_ret rfl rfl hq
  · obtain ⟨rfl, hq⟩ := hq
    exact ⟨by decide, s_W_law77_9 hq⟩
/-- FeltHarnessLaw.length(LFeltHarness;I[J)I -/
def t_W_length_9 (E : MEnv) (I : II) (T : TT) (Q : QQ) : Prop := Q (.inl (some (.int 1))) I T
theorem s_W_length_9 {E : MEnv} {I : II} {T : TT} {Q : QQ} (hq : t_W_length_9 E I T Q) : ev E 308 9 [none, none, none, none] [] I T Q := by
  unfold t_W_length_9 at hq
  refine ev_seq 1 (ip' := 10) (loc' := [none, none, none, none]) (st' := [(.int 1)]) (I1 := I) (T1 := T) rfl ?_
  exact ev_ret rfl rfl hq
def t_W_length_0 (E : MEnv) (I : II) (T : TT) (Q : QQ) (x1 : Int32) : Prop := ev E 309 0 [some (.ref 0), some (.int x1), none, none] [] I T (KI (fun v1 I1 T1 => Q (.inl (some (.int 0))) I1 (m_up T1.1 536 0 v1.toInt64, T1.2)) (fun x I1 T1 => (x = 1 ∧ t_W_length_9 E I1 T1 Q)))
theorem s_W_length_0 {E : MEnv} {I : II} {T : TT} {Q : QQ} {x1 : Int32} (hq : t_W_length_0 E I T Q x1) : ev E 308 0 [some (.ref 0), some (.int x1), some (.ref 536), none] [] I T Q := by
  unfold t_W_length_0 at hq
  refine ev_seq 4 (ip' := 4) (loc' := [some (.ref 0), some (.int x1), some (.ref 536), none]) (st' := [(.int x1), (.ref 0), (.int 0), (.ref 536)]) (I1 := I) (T1 := T) rfl ?_
  refine ev_callI rfl rfl rfl (fun v1 I1 T1 hq => ?_) (fun x I1 T1 hq => ?_) hq
  · refine ev_seq 4 (ip' := 12) (loc' := [some (.ref 0), some (.int x1), some (.ref 536), none]) (st' := [(.int 0)]) (I1 := I1) (T1 := (m_up T1.1 536 0 v1.toInt64, T1.2)) rfl ?_
    exact ev_ret rfl rfl hq
  · obtain ⟨rfl, hq⟩ := hq
    exact ⟨by decide, s_W_length_9 hq⟩
/-- FeltHarnessLaw.look(LFeltHarness;I[J)I -/
def t_W_look_9 (E : MEnv) (I : II) (T : TT) (Q : QQ) : Prop := Q (.inl (some (.int 1))) I T
theorem s_W_look_9 {E : MEnv} {I : II} {T : TT} {Q : QQ} (hq : t_W_look_9 E I T Q) : ev E 254 9 [none, none, none, none] [] I T Q := by
  unfold t_W_look_9 at hq
  refine ev_seq 1 (ip' := 10) (loc' := [none, none, none, none]) (st' := [(.int 1)]) (I1 := I) (T1 := T) rfl ?_
  exact ev_ret rfl rfl hq
def t_W_look_0 (E : MEnv) (I : II) (T : TT) (Q : QQ) (x1 : Int32) : Prop := ev E 255 0 [some (.ref 0), some (.int x1), none, none, none, none] [] I T (KI (fun v1 I1 T1 => Q (.inl (some (.int 0))) I1 (m_up T1.1 536 0 v1.toInt64, T1.2)) (fun x I1 T1 => (x = 1 ∧ t_W_look_9 E I1 T1 Q)))
theorem s_W_look_0 {E : MEnv} {I : II} {T : TT} {Q : QQ} {x1 : Int32} (hq : t_W_look_0 E I T Q x1) : ev E 254 0 [some (.ref 0), some (.int x1), some (.ref 536), none] [] I T Q := by
  unfold t_W_look_0 at hq
  refine ev_seq 4 (ip' := 4) (loc' := [some (.ref 0), some (.int x1), some (.ref 536), none]) (st' := [(.int x1), (.ref 0), (.int 0), (.ref 536)]) (I1 := I) (T1 := T) rfl ?_
  refine ev_callI rfl rfl rfl (fun v1 I1 T1 hq => ?_) (fun x I1 T1 hq => ?_) hq
  · refine ev_seq 4 (ip' := 12) (loc' := [some (.ref 0), some (.int x1), some (.ref 536), none]) (st' := [(.int 0)]) (I1 := I1) (T1 := (m_up T1.1 536 0 v1.toInt64, T1.2)) rfl ?_
    exact ev_ret rfl rfl hq
  · obtain ⟨rfl, hq⟩ := hq
    exact ⟨by decide, s_W_look_9 hq⟩
/-- FeltHarnessLaw.loosest(LFeltHarness;I[J)I -/
def t_W_loosest_9 (E : MEnv) (I : II) (T : TT) (Q : QQ) : Prop := Q (.inl (some (.int 1))) I T
theorem s_W_loosest_9 {E : MEnv} {I : II} {T : TT} {Q : QQ} (hq : t_W_loosest_9 E I T Q) : ev E 283 9 [none, none, none, none] [] I T Q := by
  unfold t_W_loosest_9 at hq
  refine ev_seq 1 (ip' := 10) (loc' := [none, none, none, none]) (st' := [(.int 1)]) (I1 := I) (T1 := T) rfl ?_
  exact ev_ret rfl rfl hq
def t_W_loosest_0 (E : MEnv) (I : II) (T : TT) (Q : QQ) (x1 : Int32) : Prop := ev E 284 0 [some (.ref 0), some (.int x1), none, none, none] [] I T (KI (fun v1 I1 T1 => Q (.inl (some (.int 0))) I1 (m_up T1.1 536 0 v1.toInt64, T1.2)) (fun x I1 T1 => (x = 1 ∧ t_W_loosest_9 E I1 T1 Q)))
theorem s_W_loosest_0 {E : MEnv} {I : II} {T : TT} {Q : QQ} {x1 : Int32} (hq : t_W_loosest_0 E I T Q x1) : ev E 283 0 [some (.ref 0), some (.int x1), some (.ref 536), none] [] I T Q := by
  unfold t_W_loosest_0 at hq
  refine ev_seq 4 (ip' := 4) (loc' := [some (.ref 0), some (.int x1), some (.ref 536), none]) (st' := [(.int x1), (.ref 0), (.int 0), (.ref 536)]) (I1 := I) (T1 := T) rfl ?_
  refine ev_callI rfl rfl rfl (fun v1 I1 T1 hq => ?_) (fun x I1 T1 hq => ?_) hq
  · refine ev_seq 4 (ip' := 12) (loc' := [some (.ref 0), some (.int x1), some (.ref 536), none]) (st' := [(.int 0)]) (I1 := I1) (T1 := (m_up T1.1 536 0 v1.toInt64, T1.2)) rfl ?_
    exact ev_ret rfl rfl hq
  · obtain ⟨rfl, hq⟩ := hq
    exact ⟨by decide, s_W_loosest_9 hq⟩
/-- FeltHarnessLaw.needs(LFeltHarness;I[J)I -/
def t_W_needs_9 (E : MEnv) (I : II) (T : TT) (Q : QQ) : Prop := Q (.inl (some (.int 1))) I T
theorem s_W_needs_9 {E : MEnv} {I : II} {T : TT} {Q : QQ} (hq : t_W_needs_9 E I T Q) : ev E 302 9 [none, none, none, none] [] I T Q := by
  unfold t_W_needs_9 at hq
  refine ev_seq 1 (ip' := 10) (loc' := [none, none, none, none]) (st' := [(.int 1)]) (I1 := I) (T1 := T) rfl ?_
  exact ev_ret rfl rfl hq
def t_W_needs_0 (E : MEnv) (I : II) (T : TT) (Q : QQ) (x1 : Int32) : Prop := ev E 303 0 [some (.ref 0), some (.int x1)] [] I T (KI (fun v1 I1 T1 => Q (.inl (some (.int 0))) I1 (m_up T1.1 536 0 v1.toInt64, T1.2)) (fun x I1 T1 => (x = 0 ∧ t_W_needs_9 E I1 T1 Q)))
theorem s_W_needs_0 {E : MEnv} {I : II} {T : TT} {Q : QQ} {x1 : Int32} (hq : t_W_needs_0 E I T Q x1) : ev E 302 0 [some (.ref 0), some (.int x1), some (.ref 536), none] [] I T Q := by
  unfold t_W_needs_0 at hq
  refine ev_seq 4 (ip' := 4) (loc' := [some (.ref 0), some (.int x1), some (.ref 536), none]) (st' := [(.int x1), (.ref 0), (.int 0), (.ref 536)]) (I1 := I) (T1 := T) rfl ?_
  refine ev_callI rfl rfl rfl (fun v1 I1 T1 hq => ?_) (fun x I1 T1 hq => ?_) hq
  · refine ev_seq 4 (ip' := 12) (loc' := [some (.ref 0), some (.int x1), some (.ref 536), none]) (st' := [(.int 0)]) (I1 := I1) (T1 := (m_up T1.1 536 0 v1.toInt64, T1.2)) rfl ?_
    exact ev_ret rfl rfl hq
  · obtain ⟨rfl, hq⟩ := hq
    exact ⟨by decide, s_W_needs_9 hq⟩
/-- FeltHarnessLaw.oats(LFeltHarness;III[J)I -/
def t_W_oats_11 (E : MEnv) (I : II) (T : TT) (Q : QQ) : Prop := Q (.inl (some (.int 1))) I T
theorem s_W_oats_11 {E : MEnv} {I : II} {T : TT} {Q : QQ} (hq : t_W_oats_11 E I T Q) : ev E 275 11 [none, none, none, none, none, none] [] I T Q := by
  unfold t_W_oats_11 at hq
  refine ev_seq 1 (ip' := 12) (loc' := [none, none, none, none, none, none]) (st' := [(.int 1)]) (I1 := I) (T1 := T) rfl ?_
  exact ev_ret rfl rfl hq
def t_W_oats_14 (E : MEnv) (I : II) (T : TT) (Q : QQ) : Prop := Q (.inl (some (.int 2))) I T
theorem s_W_oats_14 {E : MEnv} {I : II} {T : TT} {Q : QQ} (hq : t_W_oats_14 E I T Q) : ev E 275 14 [none, none, none, none, none, none] [] I T Q := by
  unfold t_W_oats_14 at hq
  refine ev_seq 1 (ip' := 15) (loc' := [none, none, none, none, none, none]) (st' := [(.int 2)]) (I1 := I) (T1 := T) rfl ?_
  exact ev_ret rfl rfl hq
def t_W_oats_0 (E : MEnv) (I : II) (T : TT) (Q : QQ) (x1 : Int32) (x2 : Int32) (x3 : Int32) : Prop := ev E 276 0 [some (.ref 0), some (.int x1), some (.int x2), some (.int x3), none] [] I T (KI (fun v1 I1 T1 => Q (.inl (some (.int 0))) I1 (m_up T1.1 536 0 v1.toInt64, T1.2)) (fun x I1 T1 => (x = 0 ∧ t_W_oats_11 E I1 T1 Q) ∨ (x = 1 ∧ t_W_oats_14 E I1 T1 Q)))
theorem s_W_oats_0 {E : MEnv} {I : II} {T : TT} {Q : QQ} {x1 : Int32} {x2 : Int32} {x3 : Int32} (hq : t_W_oats_0 E I T Q x1 x2 x3) : ev E 275 0 [some (.ref 0), some (.int x1), some (.int x2), some (.int x3), some (.ref 536), none] [] I T Q := by
  unfold t_W_oats_0 at hq
  refine ev_seq 6 (ip' := 6) (loc' := [some (.ref 0), some (.int x1), some (.int x2), some (.int x3), some (.ref 536), none]) (st' := [(.int x3), (.int x2), (.int x1), (.ref 0), (.int 0), (.ref 536)]) (I1 := I) (T1 := T) rfl ?_
  refine ev_callI rfl rfl rfl (fun v1 I1 T1 hq => ?_) (fun x I1 T1 hq => ?_) hq
  · refine ev_seq 4 (ip' := 17) (loc' := [some (.ref 0), some (.int x1), some (.int x2), some (.int x3), some (.ref 536), none]) (st' := [(.int 0)]) (I1 := I1) (T1 := (m_up T1.1 536 0 v1.toInt64, T1.2)) rfl ?_
    exact ev_ret rfl rfl hq
  · rcases hq with ⟨rfl, hq⟩ | ⟨rfl, hq⟩
    · exact ⟨by decide, s_W_oats_11 hq⟩
    · exact ⟨by decide, s_W_oats_14 hq⟩
/-- FeltHarnessLaw.pairs(LFeltHarness;I[J)I -/
def t_W_pairs_9 (E : MEnv) (I : II) (T : TT) (Q : QQ) : Prop := Q (.inl (some (.int 1))) I T
theorem s_W_pairs_9 {E : MEnv} {I : II} {T : TT} {Q : QQ} (hq : t_W_pairs_9 E I T Q) : ev E 305 9 [none, none, none, none] [] I T Q := by
  unfold t_W_pairs_9 at hq
  refine ev_seq 1 (ip' := 10) (loc' := [none, none, none, none]) (st' := [(.int 1)]) (I1 := I) (T1 := T) rfl ?_
  exact ev_ret rfl rfl hq
def t_W_pairs_0 (E : MEnv) (I : II) (T : TT) (Q : QQ) (x1 : Int32) : Prop := ev E 306 0 [some (.ref 0), some (.int x1), none] [] I T (KI (fun v1 I1 T1 => Q (.inl (some (.int 0))) I1 (m_up T1.1 536 0 v1.toInt64, T1.2)) (fun x I1 T1 => (x = 0 ∧ t_W_pairs_9 E I1 T1 Q)))
theorem s_W_pairs_0 {E : MEnv} {I : II} {T : TT} {Q : QQ} {x1 : Int32} (hq : t_W_pairs_0 E I T Q x1) : ev E 305 0 [some (.ref 0), some (.int x1), some (.ref 536), none] [] I T Q := by
  unfold t_W_pairs_0 at hq
  refine ev_seq 4 (ip' := 4) (loc' := [some (.ref 0), some (.int x1), some (.ref 536), none]) (st' := [(.int x1), (.ref 0), (.int 0), (.ref 536)]) (I1 := I) (T1 := T) rfl ?_
  refine ev_callI rfl rfl rfl (fun v1 I1 T1 hq => ?_) (fun x I1 T1 hq => ?_) hq
  · refine ev_seq 4 (ip' := 12) (loc' := [some (.ref 0), some (.int x1), some (.ref 536), none]) (st' := [(.int 0)]) (I1 := I1) (T1 := (m_up T1.1 536 0 v1.toInt64, T1.2)) rfl ?_
    exact ev_ret rfl rfl hq
  · obtain ⟨rfl, hq⟩ := hq
    exact ⟨by decide, s_W_pairs_9 hq⟩
/-- FeltHarnessLaw.rested(LFeltHarness;II[J)I -/
def t_W_rested_10 (E : MEnv) (I : II) (T : TT) (Q : QQ) : Prop := Q (.inl (some (.int 1))) I T
theorem s_W_rested_10 {E : MEnv} {I : II} {T : TT} {Q : QQ} (hq : t_W_rested_10 E I T Q) : ev E 296 10 [none, none, none, none, none] [] I T Q := by
  unfold t_W_rested_10 at hq
  refine ev_seq 1 (ip' := 11) (loc' := [none, none, none, none, none]) (st' := [(.int 1)]) (I1 := I) (T1 := T) rfl ?_
  exact ev_ret rfl rfl hq
def t_W_rested_13 (E : MEnv) (I : II) (T : TT) (Q : QQ) : Prop := Q (.inl (some (.int 2))) I T
theorem s_W_rested_13 {E : MEnv} {I : II} {T : TT} {Q : QQ} (hq : t_W_rested_13 E I T Q) : ev E 296 13 [none, none, none, none, none] [] I T Q := by
  unfold t_W_rested_13 at hq
  refine ev_seq 1 (ip' := 14) (loc' := [none, none, none, none, none]) (st' := [(.int 2)]) (I1 := I) (T1 := T) rfl ?_
  exact ev_ret rfl rfl hq
def t_W_rested_0 (E : MEnv) (I : II) (T : TT) (Q : QQ) (x1 : Int32) (x2 : Int32) : Prop := ev E 297 0 [some (.ref 0), some (.int x1), some (.int x2)] [] I T (KI (fun v1 I1 T1 => Q (.inl (some (.int 0))) I1 (m_up T1.1 536 0 v1.toInt64, T1.2)) (fun x I1 T1 => (x = 0 ∧ t_W_rested_10 E I1 T1 Q) ∨ (x = 1 ∧ t_W_rested_13 E I1 T1 Q)))
theorem s_W_rested_0 {E : MEnv} {I : II} {T : TT} {Q : QQ} {x1 : Int32} {x2 : Int32} (hq : t_W_rested_0 E I T Q x1 x2) : ev E 296 0 [some (.ref 0), some (.int x1), some (.int x2), some (.ref 536), none] [] I T Q := by
  unfold t_W_rested_0 at hq
  refine ev_seq 5 (ip' := 5) (loc' := [some (.ref 0), some (.int x1), some (.int x2), some (.ref 536), none]) (st' := [(.int x2), (.int x1), (.ref 0), (.int 0), (.ref 536)]) (I1 := I) (T1 := T) rfl ?_
  refine ev_callI rfl rfl rfl (fun v1 I1 T1 hq => ?_) (fun x I1 T1 hq => ?_) hq
  · refine ev_seq 4 (ip' := 16) (loc' := [some (.ref 0), some (.int x1), some (.int x2), some (.ref 536), none]) (st' := [(.int 0)]) (I1 := I1) (T1 := (m_up T1.1 536 0 v1.toInt64, T1.2)) rfl ?_
    exact ev_ret rfl rfl hq
  · rcases hq with ⟨rfl, hq⟩ | ⟨rfl, hq⟩
    · exact ⟨by decide, s_W_rested_10 hq⟩
    · exact ⟨by decide, s_W_rested_13 hq⟩
/-- FeltHarnessLaw.season(LFeltHarness;IIII[J)I -/
def t_W_season_12 (E : MEnv) (I : II) (T : TT) (Q : QQ) : Prop := Q (.inl (some (.int 1))) I T
theorem s_W_season_12 {E : MEnv} {I : II} {T : TT} {Q : QQ} (hq : t_W_season_12 E I T Q) : ev E 311 12 [none, none, none, none, none, none, none] [] I T Q := by
  unfold t_W_season_12 at hq
  refine ev_seq 1 (ip' := 13) (loc' := [none, none, none, none, none, none, none]) (st' := [(.int 1)]) (I1 := I) (T1 := T) rfl ?_
  exact ev_ret rfl rfl hq
def t_W_season_0 (E : MEnv) (I : II) (T : TT) (Q : QQ) (x1 : Int32) (x2 : Int32) (x3 : Int32) (x4 : Int32) : Prop := ev E 312 0 [some (.ref 0), some (.int x1), some (.int x2), some (.int x3), some (.int x4)] [] I T (KI (fun v1 I1 T1 => Q (.inl (some (.int 0))) I1 (m_up T1.1 536 0 v1.toInt64, T1.2)) (fun x I1 T1 => (x = 1 ∧ t_W_season_12 E I1 T1 Q)))
theorem s_W_season_0 {E : MEnv} {I : II} {T : TT} {Q : QQ} {x1 : Int32} {x2 : Int32} {x3 : Int32} {x4 : Int32} (hq : t_W_season_0 E I T Q x1 x2 x3 x4) : ev E 311 0 [some (.ref 0), some (.int x1), some (.int x2), some (.int x3), some (.int x4), some (.ref 536), none] [] I T Q := by
  unfold t_W_season_0 at hq
  refine ev_seq 7 (ip' := 7) (loc' := [some (.ref 0), some (.int x1), some (.int x2), some (.int x3), some (.int x4), some (.ref 536), none]) (st' := [(.int x4), (.int x3), (.int x2), (.int x1), (.ref 0), (.int 0), (.ref 536)]) (I1 := I) (T1 := T) rfl ?_
  refine ev_callI rfl rfl rfl (fun v1 I1 T1 hq => ?_) (fun x I1 T1 hq => ?_) hq
  · refine ev_seq 4 (ip' := 15) (loc' := [some (.ref 0), some (.int x1), some (.int x2), some (.int x3), some (.int x4), some (.ref 536), none]) (st' := [(.int 0)]) (I1 := I1) (T1 := (m_up T1.1 536 0 v1.toInt64, T1.2)) rfl ?_
    exact ev_ret rfl rfl hq
  · obtain ⟨rfl, hq⟩ := hq
    exact ⟨by decide, s_W_season_12 hq⟩
/-- FeltHarnessLaw.side(LFeltHarness;I[J)I -/
def t_W_side_9 (E : MEnv) (I : II) (T : TT) (Q : QQ) : Prop := Q (.inl (some (.int 1))) I T
theorem s_W_side_9 {E : MEnv} {I : II} {T : TT} {Q : QQ} (hq : t_W_side_9 E I T Q) : ev E 299 9 [none, none, none, none] [] I T Q := by
  unfold t_W_side_9 at hq
  refine ev_seq 1 (ip' := 10) (loc' := [none, none, none, none]) (st' := [(.int 1)]) (I1 := I) (T1 := T) rfl ?_
  exact ev_ret rfl rfl hq
def t_W_side_0 (E : MEnv) (I : II) (T : TT) (Q : QQ) (x1 : Int32) : Prop := ev E 300 0 [some (.ref 0), some (.int x1)] [] I T (KI (fun v1 I1 T1 => Q (.inl (some (.int 0))) I1 (m_up T1.1 536 0 v1.toInt64, T1.2)) (fun x I1 T1 => (x = 1 ∧ t_W_side_9 E I1 T1 Q)))
theorem s_W_side_0 {E : MEnv} {I : II} {T : TT} {Q : QQ} {x1 : Int32} (hq : t_W_side_0 E I T Q x1) : ev E 299 0 [some (.ref 0), some (.int x1), some (.ref 536), none] [] I T Q := by
  unfold t_W_side_0 at hq
  refine ev_seq 4 (ip' := 4) (loc' := [some (.ref 0), some (.int x1), some (.ref 536), none]) (st' := [(.int x1), (.ref 0), (.int 0), (.ref 536)]) (I1 := I) (T1 := T) rfl ?_
  refine ev_callI rfl rfl rfl (fun v1 I1 T1 hq => ?_) (fun x I1 T1 hq => ?_) hq
  · refine ev_seq 4 (ip' := 12) (loc' := [some (.ref 0), some (.int x1), some (.ref 536), none]) (st' := [(.int 0)]) (I1 := I1) (T1 := (m_up T1.1 536 0 v1.toInt64, T1.2)) rfl ?_
    exact ev_ret rfl rfl hq
  · obtain ⟨rfl, hq⟩ := hq
    exact ⟨by decide, s_W_side_9 hq⟩
/-- FeltHarnessLaw.span(LFeltHarness;IIIIII[J)I -/
def t_W_span_14 (E : MEnv) (I : II) (T : TT) (Q : QQ) : Prop := Q (.inl (some (.int 1))) I T
theorem s_W_span_14 {E : MEnv} {I : II} {T : TT} {Q : QQ} (hq : t_W_span_14 E I T Q) : ev E 321 14 [none, none, none, none, none, none, none, none, none] [] I T Q := by
  unfold t_W_span_14 at hq
  refine ev_seq 1 (ip' := 15) (loc' := [none, none, none, none, none, none, none, none, none]) (st' := [(.int 1)]) (I1 := I) (T1 := T) rfl ?_
  exact ev_ret rfl rfl hq
def t_W_span_0 (E : MEnv) (I : II) (T : TT) (Q : QQ) (x1 : Int32) (x2 : Int32) (x3 : Int32) (x4 : Int32) (x5 : Int32) (x6 : Int32) : Prop := ev E 322 0 [some (.ref 0), some (.int x1), some (.int x2), some (.int x3), some (.int x4), some (.int x5), some (.int x6), none, none, none, none, none] [] I T (KI (fun v1 I1 T1 => Q (.inl (some (.int 0))) I1 (m_up T1.1 536 0 v1.toInt64, T1.2)) (fun x I1 T1 => (x = 1 ∧ t_W_span_14 E I1 T1 Q)))
theorem s_W_span_0 {E : MEnv} {I : II} {T : TT} {Q : QQ} {x1 : Int32} {x2 : Int32} {x3 : Int32} {x4 : Int32} {x5 : Int32} {x6 : Int32} (hq : t_W_span_0 E I T Q x1 x2 x3 x4 x5 x6) : ev E 321 0 [some (.ref 0), some (.int x1), some (.int x2), some (.int x3), some (.int x4), some (.int x5), some (.int x6), some (.ref 536), none] [] I T Q := by
  unfold t_W_span_0 at hq
  refine ev_seq 9 (ip' := 9) (loc' := [some (.ref 0), some (.int x1), some (.int x2), some (.int x3), some (.int x4), some (.int x5), some (.int x6), some (.ref 536), none]) (st' := [(.int x6), (.int x5), (.int x4), (.int x3), (.int x2), (.int x1), (.ref 0), (.int 0), (.ref 536)]) (I1 := I) (T1 := T) rfl ?_
  refine ev_callI rfl rfl rfl (fun v1 I1 T1 hq => ?_) (fun x I1 T1 hq => ?_) hq
  · refine ev_seq 4 (ip' := 17) (loc' := [some (.ref 0), some (.int x1), some (.int x2), some (.int x3), some (.int x4), some (.int x5), some (.int x6), some (.ref 536), none]) (st' := [(.int 0)]) (I1 := I1) (T1 := (m_up T1.1 536 0 v1.toInt64, T1.2)) rfl ?_
    exact ev_ret rfl rfl hq
  · obtain ⟨rfl, hq⟩ := hq
    exact ⟨by decide, s_W_span_14 hq⟩
/-- FeltHarnessLaw.stage(LFeltHarness;II[J)I -/
def t_W_stage_10 (E : MEnv) (I : II) (T : TT) (Q : QQ) : Prop := Q (.inl (some (.int 1))) I T
theorem s_W_stage_10 {E : MEnv} {I : II} {T : TT} {Q : QQ} (hq : t_W_stage_10 E I T Q) : ev E 191 10 [none, none, none, none, none] [] I T Q := by
  unfold t_W_stage_10 at hq
  refine ev_seq 1 (ip' := 11) (loc' := [none, none, none, none, none]) (st' := [(.int 1)]) (I1 := I) (T1 := T) rfl ?_
  exact ev_ret rfl rfl hq
def t_W_stage_13 (E : MEnv) (I : II) (T : TT) (Q : QQ) : Prop := Q (.inl (some (.int 2))) I T
theorem s_W_stage_13 {E : MEnv} {I : II} {T : TT} {Q : QQ} (hq : t_W_stage_13 E I T Q) : ev E 191 13 [none, none, none, none, none] [] I T Q := by
  unfold t_W_stage_13 at hq
  refine ev_seq 1 (ip' := 14) (loc' := [none, none, none, none, none]) (st' := [(.int 2)]) (I1 := I) (T1 := T) rfl ?_
  exact ev_ret rfl rfl hq
def t_W_stage_0 (E : MEnv) (I : II) (T : TT) (Q : QQ) (x1 : Int32) (x2 : Int32) : Prop := ev E 192 0 [some (.ref 0), some (.int x1), some (.int x2)] [] I T (KI (fun v1 I1 T1 => Q (.inl (some (.int 0))) I1 (m_up T1.1 536 0 v1.toInt64, T1.2)) (fun x I1 T1 => (x = 0 ∧ t_W_stage_10 E I1 T1 Q) ∨ (x = 1 ∧ t_W_stage_13 E I1 T1 Q)))
theorem s_W_stage_0 {E : MEnv} {I : II} {T : TT} {Q : QQ} {x1 : Int32} {x2 : Int32} (hq : t_W_stage_0 E I T Q x1 x2) : ev E 191 0 [some (.ref 0), some (.int x1), some (.int x2), some (.ref 536), none] [] I T Q := by
  unfold t_W_stage_0 at hq
  refine ev_seq 5 (ip' := 5) (loc' := [some (.ref 0), some (.int x1), some (.int x2), some (.ref 536), none]) (st' := [(.int x2), (.int x1), (.ref 0), (.int 0), (.ref 536)]) (I1 := I) (T1 := T) rfl ?_
  refine ev_callI rfl rfl rfl (fun v1 I1 T1 hq => ?_) (fun x I1 T1 hq => ?_) hq
  · refine ev_seq 4 (ip' := 16) (loc' := [some (.ref 0), some (.int x1), some (.int x2), some (.ref 536), none]) (st' := [(.int 0)]) (I1 := I1) (T1 := (m_up T1.1 536 0 v1.toInt64, T1.2)) rfl ?_
    exact ev_ret rfl rfl hq
  · rcases hq with ⟨rfl, hq⟩ | ⟨rfl, hq⟩
    · exact ⟨by decide, s_W_stage_10 hq⟩
    · exact ⟨by decide, s_W_stage_13 hq⟩
/-- FeltHarnessLaw.stall(LFeltHarness;I[J)I -/
def t_W_stall_9 (E : MEnv) (I : II) (T : TT) (Q : QQ) : Prop := Q (.inl (some (.int 1))) I T
theorem s_W_stall_9 {E : MEnv} {I : II} {T : TT} {Q : QQ} (hq : t_W_stall_9 E I T Q) : ev E 239 9 [none, none, none, none] [] I T Q := by
  unfold t_W_stall_9 at hq
  refine ev_seq 1 (ip' := 10) (loc' := [none, none, none, none]) (st' := [(.int 1)]) (I1 := I) (T1 := T) rfl ?_
  exact ev_ret rfl rfl hq
def t_W_stall_0 (E : MEnv) (I : II) (T : TT) (Q : QQ) (x1 : Int32) : Prop := ev E 240 0 [some (.ref 0), some (.int x1)] [] I T (KI (fun v1 I1 T1 => Q (.inl (some (.int 0))) I1 (m_up T1.1 536 0 v1.toInt64, T1.2)) (fun x I1 T1 => (x = 0 ∧ t_W_stall_9 E I1 T1 Q)))
theorem s_W_stall_0 {E : MEnv} {I : II} {T : TT} {Q : QQ} {x1 : Int32} (hq : t_W_stall_0 E I T Q x1) : ev E 239 0 [some (.ref 0), some (.int x1), some (.ref 536), none] [] I T Q := by
  unfold t_W_stall_0 at hq
  refine ev_seq 4 (ip' := 4) (loc' := [some (.ref 0), some (.int x1), some (.ref 536), none]) (st' := [(.int x1), (.ref 0), (.int 0), (.ref 536)]) (I1 := I) (T1 := T) rfl ?_
  refine ev_callI rfl rfl rfl (fun v1 I1 T1 hq => ?_) (fun x I1 T1 hq => ?_) hq
  · refine ev_seq 4 (ip' := 12) (loc' := [some (.ref 0), some (.int x1), some (.ref 536), none]) (st' := [(.int 0)]) (I1 := I1) (T1 := (m_up T1.1 536 0 v1.toInt64, T1.2)) rfl ?_
    exact ev_ret rfl rfl hq
  · obtain ⟨rfl, hq⟩ := hq
    exact ⟨by decide, s_W_stall_9 hq⟩
/-- FeltHarnessLaw.stands(LFeltHarness;II[J)I -/
def t_W_stands_10 (E : MEnv) (I : II) (T : TT) (Q : QQ) : Prop := Q (.inl (some (.int 1))) I T
theorem s_W_stands_10 {E : MEnv} {I : II} {T : TT} {Q : QQ} (hq : t_W_stands_10 E I T Q) : ev E 228 10 [none, none, none, none, none] [] I T Q := by
  unfold t_W_stands_10 at hq
  refine ev_seq 1 (ip' := 11) (loc' := [none, none, none, none, none]) (st' := [(.int 1)]) (I1 := I) (T1 := T) rfl ?_
  exact ev_ret rfl rfl hq
def t_W_stands_13 (E : MEnv) (I : II) (T : TT) (Q : QQ) : Prop := Q (.inl (some (.int 2))) I T
theorem s_W_stands_13 {E : MEnv} {I : II} {T : TT} {Q : QQ} (hq : t_W_stands_13 E I T Q) : ev E 228 13 [none, none, none, none, none] [] I T Q := by
  unfold t_W_stands_13 at hq
  refine ev_seq 1 (ip' := 14) (loc' := [none, none, none, none, none]) (st' := [(.int 2)]) (I1 := I) (T1 := T) rfl ?_
  exact ev_ret rfl rfl hq
def t_W_stands_0 (E : MEnv) (I : II) (T : TT) (Q : QQ) (x1 : Int32) (x2 : Int32) : Prop := ev E 229 0 [some (.ref 0), some (.int x1), some (.int x2)] [] I T (KI (fun v1 I1 T1 => Q (.inl (some (.int 0))) I1 (m_up T1.1 536 0 v1.toInt64, T1.2)) (fun x I1 T1 => (x = 0 ∧ t_W_stands_10 E I1 T1 Q) ∨ (x = 1 ∧ t_W_stands_13 E I1 T1 Q)))
theorem s_W_stands_0 {E : MEnv} {I : II} {T : TT} {Q : QQ} {x1 : Int32} {x2 : Int32} (hq : t_W_stands_0 E I T Q x1 x2) : ev E 228 0 [some (.ref 0), some (.int x1), some (.int x2), some (.ref 536), none] [] I T Q := by
  unfold t_W_stands_0 at hq
  refine ev_seq 5 (ip' := 5) (loc' := [some (.ref 0), some (.int x1), some (.int x2), some (.ref 536), none]) (st' := [(.int x2), (.int x1), (.ref 0), (.int 0), (.ref 536)]) (I1 := I) (T1 := T) rfl ?_
  refine ev_callI rfl rfl rfl (fun v1 I1 T1 hq => ?_) (fun x I1 T1 hq => ?_) hq
  · refine ev_seq 4 (ip' := 16) (loc' := [some (.ref 0), some (.int x1), some (.int x2), some (.ref 536), none]) (st' := [(.int 0)]) (I1 := I1) (T1 := (m_up T1.1 536 0 v1.toInt64, T1.2)) rfl ?_
    exact ev_ret rfl rfl hq
  · rcases hq with ⟨rfl, hq⟩ | ⟨rfl, hq⟩
    · exact ⟨by decide, s_W_stands_10 hq⟩
    · exact ⟨by decide, s_W_stands_13 hq⟩
/-- FeltHarnessLaw.steady(LFeltHarness;IIII[J)I -/
def t_W_steady_11 (E : MEnv) (I : II) (T : TT) (Q : QQ) : Prop := Q (.inl (some (.int 1))) I T
theorem s_W_steady_11 {E : MEnv} {I : II} {T : TT} {Q : QQ} (hq : t_W_steady_11 E I T Q) : ev E 269 11 [none, none, none, none, none, none, none] [] I T Q := by
  unfold t_W_steady_11 at hq
  refine ev_seq 1 (ip' := 12) (loc' := [none, none, none, none, none, none, none]) (st' := [(.int 1)]) (I1 := I) (T1 := T) rfl ?_
  exact ev_ret rfl rfl hq
def t_W_steady_0 (E : MEnv) (I : II) (T : TT) (Q : QQ) (x1 : Int32) (x2 : Int32) (x3 : Int32) (x4 : Int32) : Prop := ev E 270 0 [some (.ref 0), some (.int x1), some (.int x2), some (.int x3), some (.int x4), none, none, none, none, none, none] [] I T (KL (fun v1 I1 T1 => Q (.inl (some (.int 0))) I1 (m_up T1.1 536 0 v1, T1.2)) (fun x I1 T1 => (x = 1 ∧ t_W_steady_11 E I1 T1 Q)))
theorem s_W_steady_0 {E : MEnv} {I : II} {T : TT} {Q : QQ} {x1 : Int32} {x2 : Int32} {x3 : Int32} {x4 : Int32} (hq : t_W_steady_0 E I T Q x1 x2 x3 x4) : ev E 269 0 [some (.ref 0), some (.int x1), some (.int x2), some (.int x3), some (.int x4), some (.ref 536), none] [] I T Q := by
  unfold t_W_steady_0 at hq
  refine ev_seq 7 (ip' := 7) (loc' := [some (.ref 0), some (.int x1), some (.int x2), some (.int x3), some (.int x4), some (.ref 536), none]) (st' := [(.int x4), (.int x3), (.int x2), (.int x1), (.ref 0), (.int 0), (.ref 536)]) (I1 := I) (T1 := T) rfl ?_
  refine ev_callL rfl rfl rfl (fun v1 I1 T1 hq => ?_) (fun x I1 T1 hq => ?_) hq
  · refine ev_seq 3 (ip' := 14) (loc' := [some (.ref 0), some (.int x1), some (.int x2), some (.int x3), some (.int x4), some (.ref 536), none]) (st' := [(.int 0)]) (I1 := I1) (T1 := (m_up T1.1 536 0 v1, T1.2)) rfl ?_
    exact ev_ret rfl rfl hq
  · obtain ⟨rfl, hq⟩ := hq
    exact ⟨by decide, s_W_steady_11 hq⟩
/-- FeltHarnessLaw.swap(LFeltHarness;I[J)I -/
def t_W_swap_9 (E : MEnv) (I : II) (T : TT) (Q : QQ) : Prop := Q (.inl (some (.int 1))) I T
theorem s_W_swap_9 {E : MEnv} {I : II} {T : TT} {Q : QQ} (hq : t_W_swap_9 E I T Q) : ev E 243 9 [none, none, none, none] [] I T Q := by
  unfold t_W_swap_9 at hq
  refine ev_seq 1 (ip' := 10) (loc' := [none, none, none, none]) (st' := [(.int 1)]) (I1 := I) (T1 := T) rfl ?_
  exact ev_ret rfl rfl hq
def t_W_swap_0 (E : MEnv) (I : II) (T : TT) (Q : QQ) (x1 : Int32) : Prop := ev E 244 0 [some (.ref 0), some (.int x1), none, none, none, none, none] [] I T (KI (fun v1 I1 T1 => Q (.inl (some (.int 0))) I1 (m_up T1.1 536 0 v1.toInt64, T1.2)) (fun x I1 T1 => (x = 1 ∧ t_W_swap_9 E I1 T1 Q)))
theorem s_W_swap_0 {E : MEnv} {I : II} {T : TT} {Q : QQ} {x1 : Int32} (hq : t_W_swap_0 E I T Q x1) : ev E 243 0 [some (.ref 0), some (.int x1), some (.ref 536), none] [] I T Q := by
  unfold t_W_swap_0 at hq
  refine ev_seq 4 (ip' := 4) (loc' := [some (.ref 0), some (.int x1), some (.ref 536), none]) (st' := [(.int x1), (.ref 0), (.int 0), (.ref 536)]) (I1 := I) (T1 := T) rfl ?_
  refine ev_callI rfl rfl rfl (fun v1 I1 T1 hq => ?_) (fun x I1 T1 hq => ?_) hq
  · refine ev_seq 4 (ip' := 12) (loc' := [some (.ref 0), some (.int x1), some (.ref 536), none]) (st' := [(.int 0)]) (I1 := I1) (T1 := (m_up T1.1 536 0 v1.toInt64, T1.2)) rfl ?_
    exact ev_ret rfl rfl hq
  · obtain ⟨rfl, hq⟩ := hq
    exact ⟨by decide, s_W_swap_9 hq⟩
/-- FeltHarnessLaw.team(LFeltHarness;II[J)I -/
def t_W_team_10 (E : MEnv) (I : II) (T : TT) (Q : QQ) : Prop := Q (.inl (some (.int 1))) I T
theorem s_W_team_10 {E : MEnv} {I : II} {T : TT} {Q : QQ} (hq : t_W_team_10 E I T Q) : ev E 216 10 [none, none, none, none, none] [] I T Q := by
  unfold t_W_team_10 at hq
  refine ev_seq 1 (ip' := 11) (loc' := [none, none, none, none, none]) (st' := [(.int 1)]) (I1 := I) (T1 := T) rfl ?_
  exact ev_ret rfl rfl hq
def t_W_team_13 (E : MEnv) (I : II) (T : TT) (Q : QQ) : Prop := Q (.inl (some (.int 2))) I T
theorem s_W_team_13 {E : MEnv} {I : II} {T : TT} {Q : QQ} (hq : t_W_team_13 E I T Q) : ev E 216 13 [none, none, none, none, none] [] I T Q := by
  unfold t_W_team_13 at hq
  refine ev_seq 1 (ip' := 14) (loc' := [none, none, none, none, none]) (st' := [(.int 2)]) (I1 := I) (T1 := T) rfl ?_
  exact ev_ret rfl rfl hq
def t_W_team_0 (E : MEnv) (I : II) (T : TT) (Q : QQ) (x1 : Int32) (x2 : Int32) : Prop := ev E 217 0 [some (.ref 0), some (.int x1), some (.int x2)] [] I T (KI (fun v1 I1 T1 => Q (.inl (some (.int 0))) I1 (m_up T1.1 536 0 v1.toInt64, T1.2)) (fun x I1 T1 => (x = 0 ∧ t_W_team_10 E I1 T1 Q) ∨ (x = 1 ∧ t_W_team_13 E I1 T1 Q)))
theorem s_W_team_0 {E : MEnv} {I : II} {T : TT} {Q : QQ} {x1 : Int32} {x2 : Int32} (hq : t_W_team_0 E I T Q x1 x2) : ev E 216 0 [some (.ref 0), some (.int x1), some (.int x2), some (.ref 536), none] [] I T Q := by
  unfold t_W_team_0 at hq
  refine ev_seq 5 (ip' := 5) (loc' := [some (.ref 0), some (.int x1), some (.int x2), some (.ref 536), none]) (st' := [(.int x2), (.int x1), (.ref 0), (.int 0), (.ref 536)]) (I1 := I) (T1 := T) rfl ?_
  refine ev_callI rfl rfl rfl (fun v1 I1 T1 hq => ?_) (fun x I1 T1 hq => ?_) hq
  · refine ev_seq 4 (ip' := 16) (loc' := [some (.ref 0), some (.int x1), some (.int x2), some (.ref 536), none]) (st' := [(.int 0)]) (I1 := I1) (T1 := (m_up T1.1 536 0 v1.toInt64, T1.2)) rfl ?_
    exact ev_ret rfl rfl hq
  · rcases hq with ⟨rfl, hq⟩ | ⟨rfl, hq⟩
    · exact ⟨by decide, s_W_team_10 hq⟩
    · exact ⟨by decide, s_W_team_13 hq⟩
/-- FeltHarnessLaw.thumb(LFeltHarness;III[J)I -/
def t_W_thumb_11 (E : MEnv) (I : II) (T : TT) (Q : QQ) : Prop := Q (.inl (some (.int 1))) I T
theorem s_W_thumb_11 {E : MEnv} {I : II} {T : TT} {Q : QQ} (hq : t_W_thumb_11 E I T Q) : ev E 262 11 [none, none, none, none, none, none] [] I T Q := by
  unfold t_W_thumb_11 at hq
  refine ev_seq 1 (ip' := 12) (loc' := [none, none, none, none, none, none]) (st' := [(.int 1)]) (I1 := I) (T1 := T) rfl ?_
  exact ev_ret rfl rfl hq
def t_W_thumb_0 (E : MEnv) (I : II) (T : TT) (Q : QQ) (x1 : Int32) (x2 : Int32) (x3 : Int32) : Prop := ev E 263 0 [some (.ref 0), some (.int x1), some (.int x2), some (.int x3), none, none, none, none, none] [] I T (KI (fun v1 I1 T1 => Q (.inl (some (.int 0))) I1 (m_up T1.1 536 0 v1.toInt64, T1.2)) (fun x I1 T1 => (x = 1 ∧ t_W_thumb_11 E I1 T1 Q)))
theorem s_W_thumb_0 {E : MEnv} {I : II} {T : TT} {Q : QQ} {x1 : Int32} {x2 : Int32} {x3 : Int32} (hq : t_W_thumb_0 E I T Q x1 x2 x3) : ev E 262 0 [some (.ref 0), some (.int x1), some (.int x2), some (.int x3), some (.ref 536), none] [] I T Q := by
  unfold t_W_thumb_0 at hq
  refine ev_seq 6 (ip' := 6) (loc' := [some (.ref 0), some (.int x1), some (.int x2), some (.int x3), some (.ref 536), none]) (st' := [(.int x3), (.int x2), (.int x1), (.ref 0), (.int 0), (.ref 536)]) (I1 := I) (T1 := T) rfl ?_
  refine ev_callI rfl rfl rfl (fun v1 I1 T1 hq => ?_) (fun x I1 T1 hq => ?_) hq
  · refine ev_seq 4 (ip' := 14) (loc' := [some (.ref 0), some (.int x1), some (.int x2), some (.int x3), some (.ref 536), none]) (st' := [(.int 0)]) (I1 := I1) (T1 := (m_up T1.1 536 0 v1.toInt64, T1.2)) rfl ?_
    exact ev_ret rfl rfl hq
  · obtain ⟨rfl, hq⟩ := hq
    exact ⟨by decide, s_W_thumb_11 hq⟩
/-- FeltHarnessLaw.told(LFeltHarness;I[J)I -/
def t_W_told_9 (E : MEnv) (I : II) (T : TT) (Q : QQ) : Prop := Q (.inl (some (.int 1))) I T
theorem s_W_told_9 {E : MEnv} {I : II} {T : TT} {Q : QQ} (hq : t_W_told_9 E I T Q) : ev E 180 9 [none, none, none, none] [] I T Q := by
  unfold t_W_told_9 at hq
  refine ev_seq 1 (ip' := 10) (loc' := [none, none, none, none]) (st' := [(.int 1)]) (I1 := I) (T1 := T) rfl ?_
  exact ev_ret rfl rfl hq
def t_W_told_0 (E : MEnv) (I : II) (T : TT) (Q : QQ) (x1 : Int32) : Prop := ev E 181 0 [some (.ref 0), some (.int x1)] [] I T (KI (fun v1 I1 T1 => Q (.inl (some (.int 0))) I1 (m_up T1.1 536 0 v1.toInt64, T1.2)) (fun x I1 T1 => (x = 1 ∧ t_W_told_9 E I1 T1 Q)))
theorem s_W_told_0 {E : MEnv} {I : II} {T : TT} {Q : QQ} {x1 : Int32} (hq : t_W_told_0 E I T Q x1) : ev E 180 0 [some (.ref 0), some (.int x1), some (.ref 536), none] [] I T Q := by
  unfold t_W_told_0 at hq
  refine ev_seq 4 (ip' := 4) (loc' := [some (.ref 0), some (.int x1), some (.ref 536), none]) (st' := [(.int x1), (.ref 0), (.int 0), (.ref 536)]) (I1 := I) (T1 := T) rfl ?_
  refine ev_callI rfl rfl rfl (fun v1 I1 T1 hq => ?_) (fun x I1 T1 hq => ?_) hq
  · refine ev_seq 4 (ip' := 12) (loc' := [some (.ref 0), some (.int x1), some (.ref 536), none]) (st' := [(.int 0)]) (I1 := I1) (T1 := (m_up T1.1 536 0 v1.toInt64, T1.2)) rfl ?_
    exact ev_ret rfl rfl hq
  · obtain ⟨rfl, hq⟩ := hq
    exact ⟨by decide, s_W_told_9 hq⟩
/-- FeltHarnessLaw.weariest(LFeltHarness;I[J)I -/
def t_W_weariest_9 (E : MEnv) (I : II) (T : TT) (Q : QQ) : Prop := Q (.inl (some (.int 1))) I T
theorem s_W_weariest_9 {E : MEnv} {I : II} {T : TT} {Q : QQ} (hq : t_W_weariest_9 E I T Q) : ev E 280 9 [none, none, none, none] [] I T Q := by
  unfold t_W_weariest_9 at hq
  refine ev_seq 1 (ip' := 10) (loc' := [none, none, none, none]) (st' := [(.int 1)]) (I1 := I) (T1 := T) rfl ?_
  exact ev_ret rfl rfl hq
def t_W_weariest_0 (E : MEnv) (I : II) (T : TT) (Q : QQ) (x1 : Int32) : Prop := ev E 281 0 [some (.ref 0), some (.int x1), none, none, none] [] I T (KI (fun v1 I1 T1 => Q (.inl (some (.int 0))) I1 (m_up T1.1 536 0 v1.toInt64, T1.2)) (fun x I1 T1 => (x = 1 ∧ t_W_weariest_9 E I1 T1 Q)))
theorem s_W_weariest_0 {E : MEnv} {I : II} {T : TT} {Q : QQ} {x1 : Int32} (hq : t_W_weariest_0 E I T Q x1) : ev E 280 0 [some (.ref 0), some (.int x1), some (.ref 536), none] [] I T Q := by
  unfold t_W_weariest_0 at hq
  refine ev_seq 4 (ip' := 4) (loc' := [some (.ref 0), some (.int x1), some (.ref 536), none]) (st' := [(.int x1), (.ref 0), (.int 0), (.ref 536)]) (I1 := I) (T1 := T) rfl ?_
  refine ev_callI rfl rfl rfl (fun v1 I1 T1 hq => ?_) (fun x I1 T1 hq => ?_) hq
  · refine ev_seq 4 (ip' := 12) (loc' := [some (.ref 0), some (.int x1), some (.ref 536), none]) (st' := [(.int 0)]) (I1 := I1) (T1 := (m_up T1.1 536 0 v1.toInt64, T1.2)) rfl ?_
    exact ev_ret rfl rfl hq
  · obtain ⟨rfl, hq⟩ := hq
    exact ⟨by decide, s_W_weariest_9 hq⟩
/-- FeltHarnessLaw.willing(LFeltHarness;I[J)I -/
def t_W_willing_9 (E : MEnv) (I : II) (T : TT) (Q : QQ) : Prop := Q (.inl (some (.int 1))) I T
theorem s_W_willing_9 {E : MEnv} {I : II} {T : TT} {Q : QQ} (hq : t_W_willing_9 E I T Q) : ev E 286 9 [none, none, none, none] [] I T Q := by
  unfold t_W_willing_9 at hq
  refine ev_seq 1 (ip' := 10) (loc' := [none, none, none, none]) (st' := [(.int 1)]) (I1 := I) (T1 := T) rfl ?_
  exact ev_ret rfl rfl hq
def t_W_willing_0 (E : MEnv) (I : II) (T : TT) (Q : QQ) (x1 : Int32) : Prop := ev E 287 0 [some (.ref 0), some (.int x1), none, none] [] I T (KI (fun v1 I1 T1 => Q (.inl (some (.int 0))) I1 (m_up T1.1 536 0 v1.toInt64, T1.2)) (fun x I1 T1 => (x = 1 ∧ t_W_willing_9 E I1 T1 Q)))
theorem s_W_willing_0 {E : MEnv} {I : II} {T : TT} {Q : QQ} {x1 : Int32} (hq : t_W_willing_0 E I T Q x1) : ev E 286 0 [some (.ref 0), some (.int x1), some (.ref 536), none] [] I T Q := by
  unfold t_W_willing_0 at hq
  refine ev_seq 4 (ip' := 4) (loc' := [some (.ref 0), some (.int x1), some (.ref 536), none]) (st' := [(.int x1), (.ref 0), (.int 0), (.ref 536)]) (I1 := I) (T1 := T) rfl ?_
  refine ev_callI rfl rfl rfl (fun v1 I1 T1 hq => ?_) (fun x I1 T1 hq => ?_) hq
  · refine ev_seq 4 (ip' := 12) (loc' := [some (.ref 0), some (.int x1), some (.ref 536), none]) (st' := [(.int 0)]) (I1 := I1) (T1 := (m_up T1.1 536 0 v1.toInt64, T1.2)) rfl ?_
    exact ev_ret rfl rfl hq
  · obtain ⟨rfl, hq⟩ := hq
    exact ⟨by decide, s_W_willing_9 hq⟩
/-- FeltHarnessLaw.work(LFeltHarness;I[J)I -/
def t_W_work_9 (E : MEnv) (I : II) (T : TT) (Q : QQ) : Prop := Q (.inl (some (.int 1))) I T
theorem s_W_work_9 {E : MEnv} {I : II} {T : TT} {Q : QQ} (hq : t_W_work_9 E I T Q) : ev E 94 9 [none, none, none, none] [] I T Q := by
  unfold t_W_work_9 at hq
  refine ev_seq 1 (ip' := 10) (loc' := [none, none, none, none]) (st' := [(.int 1)]) (I1 := I) (T1 := T) rfl ?_
  exact ev_ret rfl rfl hq
def t_W_work_0 (E : MEnv) (I : II) (T : TT) (Q : QQ) (x1 : Int32) : Prop := ev E 95 0 [some (.ref 0), some (.int x1)] [] I T (KI (fun v1 I1 T1 => Q (.inl (some (.int 0))) I1 (m_up T1.1 536 0 v1.toInt64, T1.2)) (fun x I1 T1 => (x = 1 ∧ t_W_work_9 E I1 T1 Q)))
theorem s_W_work_0 {E : MEnv} {I : II} {T : TT} {Q : QQ} {x1 : Int32} (hq : t_W_work_0 E I T Q x1) : ev E 94 0 [some (.ref 0), some (.int x1), some (.ref 536), none] [] I T Q := by
  unfold t_W_work_0 at hq
  refine ev_seq 4 (ip' := 4) (loc' := [some (.ref 0), some (.int x1), some (.ref 536), none]) (st' := [(.int x1), (.ref 0), (.int 0), (.ref 536)]) (I1 := I) (T1 := T) rfl ?_
  refine ev_callI rfl rfl rfl (fun v1 I1 T1 hq => ?_) (fun x I1 T1 hq => ?_) hq
  · refine ev_seq 4 (ip' := 12) (loc' := [some (.ref 0), some (.int x1), some (.ref 536), none]) (st' := [(.int 0)]) (I1 := I1) (T1 := (m_up T1.1 536 0 v1.toInt64, T1.2)) rfl ?_
    exact ev_ret rfl rfl hq
  · obtain ⟨rfl, hq⟩ := hq
    exact ⟨by decide, s_W_work_9 hq⟩
/-- FeltHarnessLaw.would(LFeltHarness;IIIIIIII[J)I -/
def t_W_would_16 (E : MEnv) (I : II) (T : TT) (Q : QQ) : Prop := Q (.inl (some (.int 1))) I T
theorem s_W_would_16 {E : MEnv} {I : II} {T : TT} {Q : QQ} (hq : t_W_would_16 E I T Q) : ev E 204 16 [none, none, none, none, none, none, none, none, none, none, none] [] I T Q := by
  unfold t_W_would_16 at hq
  refine ev_seq 1 (ip' := 17) (loc' := [none, none, none, none, none, none, none, none, none, none, none]) (st' := [(.int 1)]) (I1 := I) (T1 := T) rfl ?_
  exact ev_ret rfl rfl hq
def t_W_would_0 (E : MEnv) (I : II) (T : TT) (Q : QQ) (x1 : Int32) (x2 : Int32) (x3 : Int32) (x4 : Int32) (x5 : Int32) (x6 : Int32) (x7 : Int32) (x8 : Int32) : Prop := ev E 205 0 [some (.ref 0), some (.int x1), some (.int x2), some (.int x3), some (.int x4), some (.int x5), some (.int x6), some (.int x7), some (.int x8)] [] I T (KI (fun v1 I1 T1 => Q (.inl (some (.int 0))) I1 (m_up T1.1 536 0 v1.toInt64, T1.2)) (fun x I1 T1 => (x = 1 ∧ t_W_would_16 E I1 T1 Q)))
theorem s_W_would_0 {E : MEnv} {I : II} {T : TT} {Q : QQ} {x1 : Int32} {x2 : Int32} {x3 : Int32} {x4 : Int32} {x5 : Int32} {x6 : Int32} {x7 : Int32} {x8 : Int32} (hq : t_W_would_0 E I T Q x1 x2 x3 x4 x5 x6 x7 x8) : ev E 204 0 [some (.ref 0), some (.int x1), some (.int x2), some (.int x3), some (.int x4), some (.int x5), some (.int x6), some (.int x7), some (.int x8), some (.ref 536), none] [] I T Q := by
  unfold t_W_would_0 at hq
  refine ev_seq 11 (ip' := 11) (loc' := [some (.ref 0), some (.int x1), some (.int x2), some (.int x3), some (.int x4), some (.int x5), some (.int x6), some (.int x7), some (.int x8), some (.ref 536), none]) (st' := [(.int x8), (.int x7), (.int x6), (.int x5), (.int x4), (.int x3), (.int x2), (.int x1), (.ref 0), (.int 0), (.ref 536)]) (I1 := I) (T1 := T) rfl ?_
  refine ev_callI rfl rfl rfl (fun v1 I1 T1 hq => ?_) (fun x I1 T1 hq => ?_) hq
  · refine ev_seq 4 (ip' := 19) (loc' := [some (.ref 0), some (.int x1), some (.int x2), some (.int x3), some (.int x4), some (.int x5), some (.int x6), some (.int x7), some (.int x8), some (.ref 536), none]) (st' := [(.int 0)]) (I1 := I1) (T1 := (m_up T1.1 536 0 v1.toInt64, T1.2)) rfl ?_
    exact ev_ret rfl rfl hq
  · obtain ⟨rfl, hq⟩ := hq
    exact ⟨by decide, s_W_would_16 hq⟩
/-- FeltHarness.at(I)I -/
def t_X_at_0 (E : MEnv) (I : II) (T : TT) (Q : QQ) (x1 : Int32) : Prop := ev E 198 0 [some (.int x1)] [] I T (KI (fun v1 I1 T1 => ev E 28 0 [some (.ref 0), some (.int v1)] [] I1 T1 (KV (fun I2 T2 => ev E 110 0 [some (.ref 28), some (.int x1), none] [] I2 T2 (KI (fun v3 I3 T3 => Q (.inl (some (.int v3))) I3 T3) (fun x I1 T1 => Q (.inr x) I1 T1))) (fun x I1 T1 => Q (.inr x) I1 T1))) (fun _ _ _ => False))
theorem s_X_at_0 {E : MEnv} {I : II} {T : TT} {Q : QQ} {x1 : Int32} (hq : t_X_at_0 E I T Q x1) : ev E 197 0 [some (.ref 0), some (.int x1)] [] I T Q := by
  unfold t_X_at_0 at hq
  refine ev_seq 2 (ip' := 2) (loc' := [some (.ref 0), some (.int x1)]) (st' := [(.int x1), (.ref 0)]) (I1 := I) (T1 := T) rfl ?_
  refine ev_callI rfl rfl rfl (fun v1 I1 T1 hq => ?_) (fun x I1 T1 hq => ?_) hq
  · refine ev_callV rfl rfl rfl (fun I2 T2 hq => ?_) (fun x I1 T1 hq => ?_) hq
    · refine ev_seq 3 (ip' := 7) (loc' := [some (.ref 0), some (.int x1)]) (st' := [(.int x1), (.ref 28)]) (I1 := I2) (T1 := T2) rfl ?_
      refine ev_callI rfl rfl rfl (fun v3 I3 T3 hq => ?_) (fun x I1 T1 hq => ?_) hq
      · exact ev_ret rfl rfl hq
      · exact ⟨by decide, hq⟩
    · exact ⟨by decide, hq⟩
  · exact hq.elim
/-- FeltHarness.book(I)I -/
def t_X_book_29 (E : MEnv) (I : II) (T : TT) (Q : QQ) (y0 : Int32) : Prop := Q (.inl (some (.int y0))) I T
theorem s_X_book_29 {E : MEnv} {I : II} {T : TT} {Q : QQ} {y0 : Int32} (hq : t_X_book_29 E I T Q y0) : ev E 170 29 [none, none] [(.int y0)] I T Q := by
  unfold t_X_book_29 at hq
  exact ev_ret rfl rfl hq
def t_X_book_0 (E : MEnv) (I : II) (T : TT) (Q : QQ) (x1 : Int32) : Prop := ev E 26 0 [some (.ref 0), some (.int x1), some (.int 60)] [] I T (KV (fun I1 T1 => ev E 29 0 [some (.ref 1), some (.int x1)] [] I1 T1 (KV (fun I2 T2 => ev E 171 0 [some (.ref 20), some (.ref 1), some (.int (I2 3 5)), none, none] [] I2 T2 (KV (fun I3 T3 => ev E 31 0 [some (.ref 1)] [] I3 T3 (KI (fun v4 I4 T4 => (v4 = 0 → (t_X_book_29 E I4 T4 Q ((I4 1 5) - 10))) ∧ (¬ (v4 = 0) → (t_X_book_29 E I4 T4 Q (I4 20 2)))) (fun x I1 T1 => Q (.inr x) I1 T1))) (fun x I1 T1 => Q (.inr x) I1 T1))) (fun x I1 T1 => Q (.inr x) I1 T1))) (fun x I1 T1 => Q (.inr x) I1 T1))
theorem s_X_book_0 {E : MEnv} {I : II} {T : TT} {Q : QQ} {x1 : Int32} (hq : t_X_book_0 E I T Q x1) : ev E 170 0 [some (.ref 0), some (.int x1)] [] I T Q := by
  unfold t_X_book_0 at hq
  refine ev_seq 3 (ip' := 3) (loc' := [some (.ref 0), some (.int x1)]) (st' := [(.int 60), (.int x1), (.ref 0)]) (I1 := I) (T1 := T) rfl ?_
  refine ev_callV rfl rfl rfl (fun I1 T1 hq => ?_) (fun x I1 T1 hq => ?_) hq
  · refine ev_seq 3 (ip' := 7) (loc' := [some (.ref 0), some (.int x1)]) (st' := [(.int x1), (.ref 1)]) (I1 := I1) (T1 := T1) rfl ?_
    refine ev_callV rfl rfl rfl (fun I2 T2 hq => ?_) (fun x I1 T1 hq => ?_) hq
    · refine ev_seq 7 (ip' := 15) (loc' := [some (.ref 0), some (.int x1)]) (st' := [(.int (I2 3 5)), (.ref 1), (.ref 20)]) (I1 := I2) (T1 := T2) rfl ?_
      refine ev_callV rfl rfl rfl (fun I3 T3 hq => ?_) (fun x I1 T1 hq => ?_) hq
      · refine ev_seq 2 (ip' := 18) (loc' := [some (.ref 0), some (.int x1)]) (st' := [(.ref 1)]) (I1 := I3) (T1 := T3) rfl ?_
        refine ev_callI rfl rfl rfl (fun v4 I4 T4 hq => ?_) (fun x I1 T1 hq => ?_) hq
        · refine ev_br (p := v4 = 0) (a := 24) (b := 20) (st' := []) inferInstance rfl rfl (fun hb => ?_) (fun hb => ?_)
          · have hq := hq.1 hb
            refine ev_seq 5 (ip' := 29) (loc' := [some (.ref 0), some (.int x1)]) (st' := [(.int ((I4 1 5) - 10))]) (I1 := I4) (T1 := T4) rfl ?_
            refine ev_fg [false, false] (loc' := [none, none]) rfl ?_
            exact s_X_book_29 (T := T4) hq
          · have hq := hq.2 hb
            refine ev_seq 4 (ip' := 29) (loc' := [some (.ref 0), some (.int x1)]) (st' := [(.int (I4 20 2))]) (I1 := I4) (T1 := T4) rfl ?_
            refine ev_fg [false, false] (loc' := [none, none]) rfl ?_
            exact s_X_book_29 (T := T4) hq
        · exact ⟨by decide, hq⟩
      · exact ⟨by decide, hq⟩
    · exact ⟨by decide, hq⟩
  · exact ⟨by decide, hq⟩
/-- FeltHarness.changeTeam()V -/
def t_X_changeTeam_36 (E : MEnv) (I : II) (T : TT) (Q : QQ) : Prop := Q (.inl none) I T
theorem s_X_changeTeam_36 {E : MEnv} {I : II} {T : TT} {Q : QQ} (hq : t_X_changeTeam_36 E I T Q) : ev E 314 36 [none, none, none] [] I T Q := by
  unfold t_X_changeTeam_36 at hq
  exact ev_ret rfl rfl hq
def t_X_changeTeam_0 (E : MEnv) (I : II) (T : TT) (Q : QQ) : Prop := ((I 3 5) = 0 → (Q (.inl none) I T)) ∧ (¬ ((I 3 5) = 0) → (ev E 315 0 [some (.ref 0), some (.int (I 3 5))] [] I T (KI (fun v1 I1 T1 => ev E 108 0 [some (.ref 30), some (.int v1)] [] I1 T1 (KI (fun v2 I2 T2 => (v2 = 0 → (ev E 315 0 [some (.ref 0), some (.int 4)] [] I2 T2 (KI (fun v3 I3 T3 => ev E 106 0 [some (.ref 30), some (.int v1), some (.int v3)] [] I3 T3 (KI (fun v4 I4 T4 => (v4 = 0 → (t_X_changeTeam_36 E I4 T4 Q )) ∧ (¬ (v4 = 0) → (ev E 117 0 [some (.ref 30), some (.int v1), some (.int v3)] [] I4 T4 (KV (fun I5 T5 => t_X_changeTeam_36 E I5 T5 Q ) (fun x I1 T1 => Q (.inr x) I1 T1))))) (fun x I1 T1 => Q (.inr x) I1 T1))) (fun x I1 T1 => Q (.inr x) I1 T1)))) ∧ (¬ (v2 = 0) → (ev E 118 0 [some (.ref 30), some (.int v1)] [] I2 T2 (KV (fun I6 T6 => Q (.inl none) I6 T6) (fun x I1 T1 => Q (.inr x) I1 T1))))) (fun x I1 T1 => Q (.inr x) I1 T1))) (fun x I1 T1 => Q (.inr x) I1 T1))))
theorem s_X_changeTeam_0 {E : MEnv} {I : II} {T : TT} {Q : QQ} (hq : t_X_changeTeam_0 E I T Q) : ev E 314 0 [some (.ref 0), none, none] [] I T Q := by
  unfold t_X_changeTeam_0 at hq
  refine ev_seq 3 (ip' := 3) (loc' := [some (.ref 0), none, none]) (st' := [(.int (I 3 5))]) (I1 := I) (T1 := T) rfl ?_
  refine ev_br (p := (I 3 5) = 0) (a := 4) (b := 5) (st' := []) inferInstance rfl rfl (fun hb => ?_) (fun hb => ?_)
  · have hq := hq.1 hb
    exact ev_ret rfl rfl hq
  · have hq := hq.2 hb
    refine ev_seq 4 (ip' := 9) (loc' := [some (.ref 0), none, none]) (st' := [(.int (I 3 5)), (.ref 0)]) (I1 := I) (T1 := T) rfl ?_
    refine ev_callI rfl rfl rfl (fun v1 I1 T1 hq => ?_) (fun x I1 T1 hq => ?_) hq
    · refine ev_seq 4 (ip' := 14) (loc' := [some (.ref 0), some (.int v1), none]) (st' := [(.int v1), (.ref 30)]) (I1 := I1) (T1 := T1) rfl ?_
      refine ev_callI rfl rfl rfl (fun v2 I2 T2 hq => ?_) (fun x I1 T1 hq => ?_) hq
      · refine ev_br (p := v2 = 0) (a := 21) (b := 16) (st' := []) inferInstance rfl rfl (fun hb => ?_) (fun hb => ?_)
        · have hq := hq.1 hb
          refine ev_seq 2 (ip' := 23) (loc' := [some (.ref 0), some (.int v1), none]) (st' := [(.int 4), (.ref 0)]) (I1 := I2) (T1 := T2) rfl ?_
          refine ev_callI rfl rfl rfl (fun v3 I3 T3 hq => ?_) (fun x I1 T1 hq => ?_) hq
          · refine ev_seq 5 (ip' := 29) (loc' := [some (.ref 0), some (.int v1), some (.int v3)]) (st' := [(.int v3), (.int v1), (.ref 30)]) (I1 := I3) (T1 := T3) rfl ?_
            refine ev_callI rfl rfl rfl (fun v4 I4 T4 hq => ?_) (fun x I1 T1 hq => ?_) hq
            · refine ev_br (p := v4 = 0) (a := 36) (b := 31) (st' := []) inferInstance rfl rfl (fun hb => ?_) (fun hb => ?_)
              · have hq := hq.1 hb
                refine ev_fg [false, false, false] (loc' := [none, none, none]) rfl ?_
                exact s_X_changeTeam_36 (T := T4) hq
              · have hq := hq.2 hb
                refine ev_seq 4 (ip' := 35) (loc' := [some (.ref 0), some (.int v1), some (.int v3)]) (st' := [(.int v3), (.int v1), (.ref 30)]) (I1 := I4) (T1 := T4) rfl ?_
                refine ev_callV rfl rfl rfl (fun I5 T5 hq => ?_) (fun x I1 T1 hq => ?_) hq
                · refine ev_fg [false, false, false] (loc' := [none, none, none]) rfl ?_
                  exact s_X_changeTeam_36 (T := T5) hq
                · exact ⟨by decide, hq⟩
            · exact ⟨by decide, hq⟩
          · exact ⟨by decide, hq⟩
        · have hq := hq.2 hb
          refine ev_seq 3 (ip' := 19) (loc' := [some (.ref 0), some (.int v1), none]) (st' := [(.int v1), (.ref 30)]) (I1 := I2) (T1 := T2) rfl ?_
          refine ev_callV rfl rfl rfl (fun I6 T6 hq => ?_) (fun x I1 T1 hq => ?_) hq
          · exact ev_ret rfl rfl hq
          · exact ⟨by decide, hq⟩
      · exact ⟨by decide, hq⟩
    · exact ⟨by decide, hq⟩
/-- FeltHarness.clashes(I)I -/
def t_X_clashes_45 (E : MEnv) (I : II) (T : TT) (Q : QQ) (y0 : Int32) : Prop := Q (.inl (some (.int y0))) I T
theorem s_X_clashes_45 {E : MEnv} {I : II} {T : TT} {Q : QQ} {y0 : Int32} (hq : t_X_clashes_45 E I T Q y0) : ev E 290 45 [none, none, none, none, none, none, none] [(.int y0)] I T Q := by
  unfold t_X_clashes_45 at hq
  exact ev_ret rfl rfl hq
def t_X_clashes_36 (E : MEnv) (I : II) (T : TT) (Q : QQ) (x1 : Int32) (x2 : Int32) (x3 : Int32) (x4 : Int32) (x5 : Int32) : Prop := ev E 290 14 [some (.ref 0), some (.int x1), some (.int x2), some (.int x3), some (.int x4), some (.int (x5 + 1)), none] [] I T Q
theorem s_X_clashes_36 {E : MEnv} {I : II} {T : TT} {Q : QQ} {x1 : Int32} {x2 : Int32} {x3 : Int32} {x4 : Int32} {x5 : Int32} (hq : t_X_clashes_36 E I T Q x1 x2 x3 x4 x5) : ev E 290 36 [some (.ref 0), some (.int x1), some (.int x2), some (.int x3), some (.int x4), some (.int x5), none] [] I T Q := by
  unfold t_X_clashes_36 at hq
  refine ev_seq 2 (ip' := 14) (loc' := [some (.ref 0), some (.int x1), some (.int x2), some (.int x3), some (.int x4), some (.int (x5 + 1)), none]) (st' := []) (I1 := I) (T1 := T) rfl ?_
  exact hq
def t_X_clashes_14 (E : MEnv) (I : II) (T : TT) (Q : QQ) (x1 : Int32) (x2 : Int32) (x3 : Int32) (x4 : Int32) (x5 : Int32) : Prop := ((I 3 5) ≤ x5 → ((x1 = 0 → (t_X_clashes_45 E I T Q (x2 / 2))) ∧ (¬ (x1 = 0) → (t_X_clashes_45 E I T Q x3)))) ∧ (¬ ((I 3 5) ≤ x5) → (ev E 111 0 [some (.ref 3), some (.int x5)] [] I T (KI (fun v1 I1 T1 => ev E 123 0 [some (.int v1)] [] I1 T1 (KI (fun v2 I2 T2 => (v2 ≤ x4 → (t_X_clashes_36 E I2 T2 Q x1 (x2 + v2) x3 x4 x5)) ∧ (¬ (v2 ≤ x4) → (t_X_clashes_36 E I2 T2 Q x1 (x2 + v2) x5 v2 x5))) (fun _ _ _ => False))) (fun x I1 T1 => Q (.inr x) I1 T1))))
theorem s_X_clashes_14 {E : MEnv} {I : II} {T : TT} {Q : QQ} {x1 : Int32} {x2 : Int32} {x3 : Int32} {x4 : Int32} {x5 : Int32} (hq : t_X_clashes_14 E I T Q x1 x2 x3 x4 x5) : ev E 290 14 [some (.ref 0), some (.int x1), some (.int x2), some (.int x3), some (.int x4), some (.int x5), none] [] I T Q := by
  unfold t_X_clashes_14 at hq
  refine ev_seq 4 (ip' := 18) (loc' := [some (.ref 0), some (.int x1), some (.int x2), some (.int x3), some (.int x4), some (.int x5), none]) (st' := [(.int (I 3 5)), (.int x5)]) (I1 := I) (T1 := T) rfl ?_
  refine ev_br (p := (I 3 5) ≤ x5) (a := 38) (b := 19) (st' := []) inferInstance rfl rfl (fun hb => ?_) (fun hb => ?_)
  · have hq := hq.1 hb
    refine ev_seq 1 (ip' := 39) (loc' := [some (.ref 0), some (.int x1), some (.int x2), some (.int x3), some (.int x4), some (.int x5), none]) (st' := [(.int x1)]) (I1 := I) (T1 := T) rfl ?_
    refine ev_br (p := x1 = 0) (a := 40) (b := 44) (st' := []) inferInstance rfl rfl (fun hb => ?_) (fun hb => ?_)
    · have hq := hq.1 hb
      refine ev_seq 4 (ip' := 45) (loc' := [some (.ref 0), some (.int x1), some (.int x2), some (.int x3), some (.int x4), some (.int x5), none]) (st' := [(.int (x2 / 2))]) (I1 := I) (T1 := T) rfl ?_
      refine ev_fg [false, false, false, false, false, false, true] (loc' := [none, none, none, none, none, none, none]) rfl ?_
      exact s_X_clashes_45 (T := T) hq
    · have hq := hq.2 hb
      refine ev_seq 1 (ip' := 45) (loc' := [some (.ref 0), some (.int x1), some (.int x2), some (.int x3), some (.int x4), some (.int x5), none]) (st' := [(.int x3)]) (I1 := I) (T1 := T) rfl ?_
      refine ev_fg [false, false, false, false, false, false, true] (loc' := [none, none, none, none, none, none, none]) rfl ?_
      exact s_X_clashes_45 (T := T) hq
  · have hq := hq.2 hb
    refine ev_seq 3 (ip' := 22) (loc' := [some (.ref 0), some (.int x1), some (.int x2), some (.int x3), some (.int x4), some (.int x5), none]) (st' := [(.int x5), (.ref 3)]) (I1 := I) (T1 := T) rfl ?_
    refine ev_callI rfl rfl rfl (fun v1 I1 T1 hq => ?_) (fun x I1 T1 hq => ?_) hq
    · refine ev_callI rfl rfl rfl (fun v2 I2 T2 hq => ?_) (fun x I1 T1 hq => ?_) hq
      · refine ev_seq 7 (ip' := 31) (loc' := [some (.ref 0), some (.int x1), some (.int (x2 + v2)), some (.int x3), some (.int x4), some (.int x5), some (.int v2)]) (st' := [(.int x4), (.int v2)]) (I1 := I2) (T1 := T2) rfl ?_
        refine ev_br (p := v2 ≤ x4) (a := 36) (b := 32) (st' := []) inferInstance rfl rfl (fun hb => ?_) (fun hb => ?_)
        · have hq := hq.1 hb
          refine ev_fg [true, true, true, true, true, true, false] (loc' := [some (.ref 0), some (.int x1), some (.int (x2 + v2)), some (.int x3), some (.int x4), some (.int x5), none]) rfl ?_
          exact s_X_clashes_36 (T := T2) hq
        · have hq := hq.2 hb
          refine ev_seq 4 (ip' := 36) (loc' := [some (.ref 0), some (.int x1), some (.int (x2 + v2)), some (.int x5), some (.int v2), some (.int x5), some (.int v2)]) (st' := []) (I1 := I2) (T1 := T2) rfl ?_
          refine ev_fg [true, true, true, true, true, true, false] (loc' := [some (.ref 0), some (.int x1), some (.int (x2 + v2)), some (.int x5), some (.int v2), some (.int x5), none]) rfl ?_
          exact s_X_clashes_36 (T := T2) hq
      · exact hq.elim
    · exact ⟨by decide, hq⟩
def t_X_clashes_0 (E : MEnv) (I : II) (T : TT) (Q : QQ) (x1 : Int32) : Prop := ev E 27 0 [some (.int x1), some (.int 0), some (.int 1)] [] I T (KI (fun v1 I1 T1 => ev E 28 0 [some (.ref 0), some (.int v1)] [] I1 T1 (KV (fun I2 T2 => t_X_clashes_14 E I2 T2 Q x1 0 (-1) 0 0) (fun x I1 T1 => Q (.inr x) I1 T1))) (fun _ _ _ => False))
theorem s_X_clashes_0 {E : MEnv} {I : II} {T : TT} {Q : QQ} {x1 : Int32} (hq : t_X_clashes_0 E I T Q x1) : ev E 290 0 [some (.ref 0), some (.int x1), none, none, none, none, none] [] I T Q := by
  unfold t_X_clashes_0 at hq
  refine ev_seq 4 (ip' := 4) (loc' := [some (.ref 0), some (.int x1), none, none, none, none, none]) (st' := [(.int 1), (.int 0), (.int x1), (.ref 0)]) (I1 := I) (T1 := T) rfl ?_
  refine ev_callI rfl rfl rfl (fun v1 I1 T1 hq => ?_) (fun x I1 T1 hq => ?_) hq
  · refine ev_callV rfl rfl rfl (fun I2 T2 hq => ?_) (fun x I1 T1 hq => ?_) hq
    · refine ev_seq 8 (ip' := 14) (loc' := [some (.ref 0), some (.int x1), some (.int 0), some (.int (-1)), some (.int 0), some (.int 0), none]) (st' := []) (I1 := I2) (T1 := T2) rfl ?_
      exact s_X_clashes_14 (T := T2) hq
    · exact ⟨by decide, hq⟩
  · exact hq.elim
/-- FeltHarness.comes(I)I -/
def t_X_comes_13 (E : MEnv) (I : II) (T : TT) (Q : QQ) (y0 : Int32) : Prop := Q (.inl (some (.int y0))) I T
theorem s_X_comes_13 {E : MEnv} {I : II} {T : TT} {Q : QQ} {y0 : Int32} (hq : t_X_comes_13 E I T Q y0) : ev E 208 13 [none, none] [(.int y0)] I T Q := by
  unfold t_X_comes_13 at hq
  exact ev_ret rfl rfl hq
def t_X_comes_0 (E : MEnv) (I : II) (T : TT) (Q : QQ) (x1 : Int32) : Prop := ev E 193 0 [some (.ref 0), some (.int x1)] [] I T (KV (fun I1 T1 => ev E 122 0 [some (.ref 28)] [] I1 T1 (KI (fun v2 I2 T2 => (v2 = 0 → (t_X_comes_13 E I2 T2 Q (-1))) ∧ (¬ (v2 = 0) → (ev E 209 0 [some (.ref 28), some (.int x1)] [] I2 T2 (KI (fun v3 I3 T3 => t_X_comes_13 E I3 T3 Q v3) (fun x I1 T1 => Q (.inr x) I1 T1))))) (fun x I1 T1 => Q (.inr x) I1 T1))) (fun x I1 T1 => Q (.inr x) I1 T1))
theorem s_X_comes_0 {E : MEnv} {I : II} {T : TT} {Q : QQ} {x1 : Int32} (hq : t_X_comes_0 E I T Q x1) : ev E 208 0 [some (.ref 0), some (.int x1)] [] I T Q := by
  unfold t_X_comes_0 at hq
  refine ev_seq 2 (ip' := 2) (loc' := [some (.ref 0), some (.int x1)]) (st' := [(.int x1), (.ref 0)]) (I1 := I) (T1 := T) rfl ?_
  refine ev_callV rfl rfl rfl (fun I1 T1 hq => ?_) (fun x I1 T1 hq => ?_) hq
  · refine ev_seq 2 (ip' := 5) (loc' := [some (.ref 0), some (.int x1)]) (st' := [(.ref 28)]) (I1 := I1) (T1 := T1) rfl ?_
    refine ev_callI rfl rfl rfl (fun v2 I2 T2 hq => ?_) (fun x I1 T1 hq => ?_) hq
    · refine ev_br (p := v2 = 0) (a := 7) (b := 9) (st' := []) inferInstance rfl rfl (fun hb => ?_) (fun hb => ?_)
      · have hq := hq.1 hb
        refine ev_seq 2 (ip' := 13) (loc' := [some (.ref 0), some (.int x1)]) (st' := [(.int (-1))]) (I1 := I2) (T1 := T2) rfl ?_
        refine ev_fg [false, false] (loc' := [none, none]) rfl ?_
        exact s_X_comes_13 (T := T2) hq
      · have hq := hq.2 hb
        refine ev_seq 3 (ip' := 12) (loc' := [some (.ref 0), some (.int x1)]) (st' := [(.int x1), (.ref 28)]) (I1 := I2) (T1 := T2) rfl ?_
        refine ev_callI rfl rfl rfl (fun v3 I3 T3 hq => ?_) (fun x I1 T1 hq => ?_) hq
        · refine ev_fg [false, false] (loc' := [none, none]) rfl ?_
          exact s_X_comes_13 (T := T3) hq
        · exact ⟨by decide, hq⟩
    · exact ⟨by decide, hq⟩
  · exact ⟨by decide, hq⟩
/-- FeltHarness.commonDivisor(JJ)J -/
def t_X_commonDivisor_23 (E : MEnv) (I : II) (T : TT) (Q : QQ) (x4 : Int64) : Prop := Q (.inl (some (.long x4))) I T
theorem s_X_commonDivisor_23 {E : MEnv} {I : II} {T : TT} {Q : QQ} {x4 : Int64} (hq : t_X_commonDivisor_23 E I T Q x4) : ev E 273 23 [none, none, none, none, some (.long x4), none, none, none, none, none, none] [] I T Q := by
  unfold t_X_commonDivisor_23 at hq
  refine ev_seq 1 (ip' := 24) (loc' := [none, none, none, none, some (.long x4), none, none, none, none, none, none]) (st' := [(.long x4)]) (I1 := I) (T1 := T) rfl ?_
  exact ev_ret rfl rfl hq
def t_X_commonDivisor_6 (E : MEnv) (I : II) (T : TT) (Q : QQ) (x4 : Int64) (x6 : Int64) (x8 : Int32) : Prop := (200 ≤ x8 → (t_X_commonDivisor_23 E I T Q x4)) ∧ (¬ (200 ≤ x8) → (((lg_cmp x6 0) = 0 → (t_X_commonDivisor_23 E I T Q x4)) ∧ (¬ ((lg_cmp x6 0) = 0) → (x6 ≠ 0 ∧ (ev E 273 6 [none, none, none, none, some (.long x6), none, some (.long (x4 - x4 / x6 * x6)), none, some (.int (x8 + 1)), none, none] [] I T Q)))))
theorem s_X_commonDivisor_6 {E : MEnv} {I : II} {T : TT} {Q : QQ} {x4 : Int64} {x6 : Int64} {x8 : Int32} (hq : t_X_commonDivisor_6 E I T Q x4 x6 x8) : ev E 273 6 [none, none, none, none, some (.long x4), none, some (.long x6), none, some (.int x8), none, none] [] I T Q := by
  unfold t_X_commonDivisor_6 at hq
  refine ev_seq 2 (ip' := 8) (loc' := [none, none, none, none, some (.long x4), none, some (.long x6), none, some (.int x8), none, none]) (st' := [(.int 200), (.int x8)]) (I1 := I) (T1 := T) rfl ?_
  refine ev_br (p := 200 ≤ x8) (a := 23) (b := 9) (st' := []) inferInstance rfl rfl (fun hb => ?_) (fun hb => ?_)
  · have hq := hq.1 hb
    refine ev_fg [true, true, true, true, true, true, false, true, false, true, true] (loc' := [none, none, none, none, some (.long x4), none, none, none, none, none, none]) rfl ?_
    exact s_X_commonDivisor_23 (T := T) hq
  · have hq := hq.2 hb
    refine ev_seq 3 (ip' := 12) (loc' := [none, none, none, none, some (.long x4), none, some (.long x6), none, some (.int x8), none, none]) (st' := [(.int (lg_cmp x6 0))]) (I1 := I) (T1 := T) rfl ?_
    refine ev_br (p := (lg_cmp x6 0) = 0) (a := 23) (b := 13) (st' := []) inferInstance rfl rfl (fun hb => ?_) (fun hb => ?_)
    · have hq := hq.1 hb
      refine ev_fg [true, true, true, true, true, true, false, true, false, true, true] (loc' := [none, none, none, none, some (.long x4), none, none, none, none, none, none]) rfl ?_
      exact s_X_commonDivisor_23 (T := T) hq
    · have hq := hq.2 hb
      refine ev_seq 2 (ip' := 15) (loc' := [none, none, none, none, some (.long x4), none, some (.long x6), none, some (.int x8), none, none]) (st' := [(.long x6), (.long x4)]) (I1 := I) (T1 := T) rfl ?_
      obtain ⟨hg, hq⟩ := hq
      refine ev_pr rfl (ev_lrem hg) ?_
      refine ev_seq 7 (ip' := 6) (loc' := [none, none, none, none, some (.long x6), none, some (.long (x4 - x4 / x6 * x6)), none, some (.int (x8 + 1)), some (.long (x4 - x4 / x6 * x6)), none]) (st' := []) (I1 := I) (T1 := T) rfl ?_
      refine ev_fg [true, true, true, true, true, true, true, true, true, false, true] (loc' := [none, none, none, none, some (.long x6), none, some (.long (x4 - x4 / x6 * x6)), none, some (.int (x8 + 1)), none, none]) rfl ?_
      exact hq
def t_X_commonDivisor_0 (E : MEnv) (I : II) (T : TT) (Q : QQ) (x0 : Int64) (x2 : Int64) : Prop := t_X_commonDivisor_6 E I T Q x0 x2 0
theorem s_X_commonDivisor_0 {E : MEnv} {I : II} {T : TT} {Q : QQ} {x0 : Int64} {x2 : Int64} (hq : t_X_commonDivisor_0 E I T Q x0 x2) : ev E 273 0 [some (.long x0), none, some (.long x2), none, none, none, none, none, none, none, none] [] I T Q := by
  unfold t_X_commonDivisor_0 at hq
  refine ev_seq 6 (ip' := 6) (loc' := [some (.long x0), none, some (.long x2), none, some (.long x0), none, some (.long x2), none, some (.int 0), none, none]) (st' := []) (I1 := I) (T1 := T) rfl ?_
  refine ev_fg [false, true, false, true, true, true, true, true, true, true, true] (loc' := [none, none, none, none, some (.long x0), none, some (.long x2), none, some (.int 0), none, none]) rfl ?_
  exact s_X_commonDivisor_6 (T := T) hq
/-- FeltHarness.count(I)I -/
def t_X_count_0 (E : MEnv) (I : II) (T : TT) (Q : QQ) (x1 : Int32) : Prop := ev E 334 (m_tsw 0 2 [2, 6, 10] 14 x1) [some (.ref 0), some (.int x1)] [] I T Q
theorem s_X_count_0 {E : MEnv} {I : II} {T : TT} {Q : QQ} {x1 : Int32} (hq : t_X_count_0 E I T Q x1) : ev E 334 0 [some (.ref 0), some (.int x1)] [] I T Q := by
  unfold t_X_count_0 at hq
  refine ev_seq 1 (ip' := 1) (loc' := [some (.ref 0), some (.int x1)]) (st' := [(.int x1)]) (I1 := I) (T1 := T) rfl ?_
  refine ev_jp rfl rfl ?_
  exact hq
def t_X_count_2 (E : MEnv) (I : II) (T : TT) (Q : QQ) : Prop := Q (.inl (some (.int (I 32 4)))) I T
theorem s_X_count_2 {E : MEnv} {I : II} {T : TT} {Q : QQ} (hq : t_X_count_2 E I T Q) : ev E 334 2 [some (.ref 0), none] [] I T Q := by
  unfold t_X_count_2 at hq
  refine ev_seq 3 (ip' := 5) (loc' := [some (.ref 0), none]) (st' := [(.int (I 32 4))]) (I1 := I) (T1 := T) rfl ?_
  exact ev_ret rfl rfl hq
def t_X_count_6 (E : MEnv) (I : II) (T : TT) (Q : QQ) : Prop := Q (.inl (some (.int (I 1 1)))) I T
theorem s_X_count_6 {E : MEnv} {I : II} {T : TT} {Q : QQ} (hq : t_X_count_6 E I T Q) : ev E 334 6 [some (.ref 0), none] [] I T Q := by
  unfold t_X_count_6 at hq
  refine ev_seq 3 (ip' := 9) (loc' := [some (.ref 0), none]) (st' := [(.int (I 1 1))]) (I1 := I) (T1 := T) rfl ?_
  exact ev_ret rfl rfl hq
def t_X_count_10 (E : MEnv) (I : II) (T : TT) (Q : QQ) : Prop := Q (.inl (some (.int (I 32 3)))) I T
theorem s_X_count_10 {E : MEnv} {I : II} {T : TT} {Q : QQ} (hq : t_X_count_10 E I T Q) : ev E 334 10 [some (.ref 0), none] [] I T Q := by
  unfold t_X_count_10 at hq
  refine ev_seq 3 (ip' := 13) (loc' := [some (.ref 0), none]) (st' := [(.int (I 32 3))]) (I1 := I) (T1 := T) rfl ?_
  exact ev_ret rfl rfl hq
def t_X_count_14 (E : MEnv) (I : II) (T : TT) (Q : QQ) : Prop := Q (.inl (some (.int (-1)))) I T
theorem s_X_count_14 {E : MEnv} {I : II} {T : TT} {Q : QQ} (hq : t_X_count_14 E I T Q) : ev E 334 14 [none, none] [] I T Q := by
  unfold t_X_count_14 at hq
  refine ev_seq 1 (ip' := 15) (loc' := [none, none]) (st' := [(.int (-1))]) (I1 := I) (T1 := T) rfl ?_
  exact ev_ret rfl rfl hq
/-- FeltHarness.drawn(I)I -/
def t_X_drawn_20 (E : MEnv) (I : II) (T : TT) (Q : QQ) (y0 : Int32) : Prop := Q (.inl (some (.int y0))) I T
theorem s_X_drawn_20 {E : MEnv} {I : II} {T : TT} {Q : QQ} {y0 : Int32} (hq : t_X_drawn_20 E I T Q y0) : ev E 315 20 [none, none] [(.int y0)] I T Q := by
  unfold t_X_drawn_20 at hq
  exact ev_ret rfl rfl hq
def t_X_drawn_0 (E : MEnv) (I : II) (T : TT) (Q : QQ) (x1 : Int32) : Prop := (0 < x1 → (x1 ≠ 0 ∧ (t_X_drawn_20 E (m_up I 0 12 (((I 0 12) * 1103515245) + 12345)) T Q (((i_ushr ((m_up I 0 12 (((I 0 12) * 1103515245) + 12345)) 0 12) 16) &&& 32767) - ((i_ushr ((m_up I 0 12 (((I 0 12) * 1103515245) + 12345)) 0 12) 16) &&& 32767) / x1 * x1)))) ∧ (¬ (0 < x1) → (t_X_drawn_20 E (m_up I 0 12 (((I 0 12) * 1103515245) + 12345)) T Q 0))
theorem s_X_drawn_0 {E : MEnv} {I : II} {T : TT} {Q : QQ} {x1 : Int32} (hq : t_X_drawn_0 E I T Q x1) : ev E 315 0 [some (.ref 0), some (.int x1)] [] I T Q := by
  unfold t_X_drawn_0 at hq
  refine ev_seq 9 (ip' := 9) (loc' := [some (.ref 0), some (.int x1)]) (st' := [(.int x1)]) (I1 := m_up I 0 12 (((I 0 12) * 1103515245) + 12345)) (T1 := T) rfl ?_
  refine ev_br (p := 0 < x1) (a := 12) (b := 10) (st' := []) inferInstance rfl rfl (fun hb => ?_) (fun hb => ?_)
  · have hq := hq.1 hb
    refine ev_seq 7 (ip' := 19) (loc' := [some (.ref 0), some (.int x1)]) (st' := [(.int x1), (.int ((i_ushr ((m_up I 0 12 (((I 0 12) * 1103515245) + 12345)) 0 12) 16) &&& 32767))]) (I1 := m_up I 0 12 (((I 0 12) * 1103515245) + 12345)) (T1 := T) rfl ?_
    obtain ⟨hg, hq⟩ := hq
    refine ev_pr rfl (ev_irem hg) ?_
    refine ev_fg [false, false] (loc' := [none, none]) rfl ?_
    exact s_X_drawn_20 (T := T) hq
  · have hq := hq.2 hb
    refine ev_seq 2 (ip' := 20) (loc' := [some (.ref 0), some (.int x1)]) (st' := [(.int 0)]) (I1 := m_up I 0 12 (((I 0 12) * 1103515245) + 12345)) (T1 := T) rfl ?_
    refine ev_fg [false, false] (loc' := [none, none]) rfl ?_
    exact s_X_drawn_20 (T := T) hq
/-- FeltHarness.fault()I -/
def t_X_fault_0 (E : MEnv) (I : II) (T : TT) (Q : QQ) : Prop := Q (.inl (some (.int (I 1 6)))) I T
theorem s_X_fault_0 {E : MEnv} {I : II} {T : TT} {Q : QQ} (hq : t_X_fault_0 E I T Q) : ev E 174 0 [some (.ref 0)] [] I T Q := by
  unfold t_X_fault_0 at hq
  refine ev_seq 3 (ip' := 3) (loc' := [some (.ref 0)]) (st' := [(.int (I 1 6))]) (I1 := I) (T1 := T) rfl ?_
  exact ev_ret rfl rfl hq
/-- FeltHarness.feed(IIIII)I -/
def t_X_feed_0 (E : MEnv) (I : II) (T : TT) (Q : QQ) (x1 : Int32) (x2 : Int32) (x3 : Int32) (x4 : Int32) (x5 : Int32) : Prop := (((I 1 1) + 20) ≤ 600 → (ev E 22 0 [some (.ref 1), some (.int x1), none] [] I T (KV (fun I1 T1 => ev E 22 0 [some (.ref 1), some (.int x2), none] [] I1 T1 (KV (fun I2 T2 => ev E 22 0 [some (.ref 1), some (.int x3), none] [] I2 T2 (KV (fun I3 T3 => ev E 22 0 [some (.ref 1), some (.int x4), none] [] I3 T3 (KV (fun I4 T4 => ev E 22 0 [some (.ref 1), some (.int x5), none] [] I4 T4 (KV (fun I5 T5 => Q (.inl (some (.int (I5 1 1)))) I5 T5) (fun x I1 T1 => Q (.inr x) I1 T1))) (fun x I1 T1 => Q (.inr x) I1 T1))) (fun x I1 T1 => Q (.inr x) I1 T1))) (fun x I1 T1 => Q (.inr x) I1 T1))) (fun x I1 T1 => Q (.inr x) I1 T1)))) ∧ (¬ (((I 1 1) + 20) ≤ 600) → (Q (.inl (some (.int (-1)))) I T))
theorem s_X_feed_0 {E : MEnv} {I : II} {T : TT} {Q : QQ} {x1 : Int32} {x2 : Int32} {x3 : Int32} {x4 : Int32} {x5 : Int32} (hq : t_X_feed_0 E I T Q x1 x2 x3 x4 x5) : ev E 21 0 [some (.ref 0), some (.int x1), some (.int x2), some (.int x3), some (.int x4), some (.int x5)] [] I T Q := by
  unfold t_X_feed_0 at hq
  refine ev_seq 6 (ip' := 6) (loc' := [some (.ref 0), some (.int x1), some (.int x2), some (.int x3), some (.int x4), some (.int x5)]) (st' := [(.int 600), (.int ((I 1 1) + 20))]) (I1 := I) (T1 := T) rfl ?_
  refine ev_br (p := ((I 1 1) + 20) ≤ 600) (a := 9) (b := 7) (st' := []) inferInstance rfl rfl (fun hb => ?_) (fun hb => ?_)
  · have hq := hq.1 hb
    refine ev_seq 3 (ip' := 12) (loc' := [some (.ref 0), some (.int x1), some (.int x2), some (.int x3), some (.int x4), some (.int x5)]) (st' := [(.int x1), (.ref 1)]) (I1 := I) (T1 := T) rfl ?_
    refine ev_callV rfl rfl rfl (fun I1 T1 hq => ?_) (fun x I1 T1 hq => ?_) hq
    · refine ev_seq 3 (ip' := 16) (loc' := [some (.ref 0), some (.int x1), some (.int x2), some (.int x3), some (.int x4), some (.int x5)]) (st' := [(.int x2), (.ref 1)]) (I1 := I1) (T1 := T1) rfl ?_
      refine ev_callV rfl rfl rfl (fun I2 T2 hq => ?_) (fun x I1 T1 hq => ?_) hq
      · refine ev_seq 3 (ip' := 20) (loc' := [some (.ref 0), some (.int x1), some (.int x2), some (.int x3), some (.int x4), some (.int x5)]) (st' := [(.int x3), (.ref 1)]) (I1 := I2) (T1 := T2) rfl ?_
        refine ev_callV rfl rfl rfl (fun I3 T3 hq => ?_) (fun x I1 T1 hq => ?_) hq
        · refine ev_seq 3 (ip' := 24) (loc' := [some (.ref 0), some (.int x1), some (.int x2), some (.int x3), some (.int x4), some (.int x5)]) (st' := [(.int x4), (.ref 1)]) (I1 := I3) (T1 := T3) rfl ?_
          refine ev_callV rfl rfl rfl (fun I4 T4 hq => ?_) (fun x I1 T1 hq => ?_) hq
          · refine ev_seq 3 (ip' := 28) (loc' := [some (.ref 0), some (.int x1), some (.int x2), some (.int x3), some (.int x4), some (.int x5)]) (st' := [(.int x5), (.ref 1)]) (I1 := I4) (T1 := T4) rfl ?_
            refine ev_callV rfl rfl rfl (fun I5 T5 hq => ?_) (fun x I1 T1 hq => ?_) hq
            · refine ev_seq 3 (ip' := 32) (loc' := [some (.ref 0), some (.int x1), some (.int x2), some (.int x3), some (.int x4), some (.int x5)]) (st' := [(.int (I5 1 1))]) (I1 := I5) (T1 := T5) rfl ?_
              exact ev_ret rfl rfl hq
            · exact ⟨by decide, hq⟩
          · exact ⟨by decide, hq⟩
        · exact ⟨by decide, hq⟩
      · exact ⟨by decide, hq⟩
    · exact ⟨by decide, hq⟩
  · have hq := hq.2 hb
    refine ev_seq 1 (ip' := 8) (loc' := [some (.ref 0), some (.int x1), some (.int x2), some (.int x3), some (.int x4), some (.int x5)]) (st' := [(.int (-1))]) (I1 := I) (T1 := T) rfl ?_
    exact ev_ret rfl rfl hq
/-- FeltHarness.feeling(II)I -/
def t_X_feeling_0 (E : MEnv) (I : II) (T : TT) (Q : QQ) (x1 : Int32) (x2 : Int32) : Prop := ev E 188 0 [some (.ref 0), some (.int x1)] [] I T (KV (fun I1 T1 => ev E 27 0 [some (.int x2), some (.int 0), some (.int 5)] [] I1 T1 (KI (fun v2 I2 T2 => ev E 28 0 [some (.ref 0), some (.int v2)] [] I2 T2 (KV (fun I3 T3 => ev E 187 (m_tsw 0 4 [11, 16, 21, 26, 31] 36 x2) [some (.ref 0), some (.int x1), some (.int x2)] [] I3 T3 Q) (fun x I1 T1 => Q (.inr x) I1 T1))) (fun _ _ _ => False))) (fun x I1 T1 => Q (.inr x) I1 T1))
theorem s_X_feeling_0 {E : MEnv} {I : II} {T : TT} {Q : QQ} {x1 : Int32} {x2 : Int32} (hq : t_X_feeling_0 E I T Q x1 x2) : ev E 187 0 [some (.ref 0), some (.int x1), some (.int x2)] [] I T Q := by
  unfold t_X_feeling_0 at hq
  refine ev_seq 2 (ip' := 2) (loc' := [some (.ref 0), some (.int x1), some (.int x2)]) (st' := [(.int x1), (.ref 0)]) (I1 := I) (T1 := T) rfl ?_
  refine ev_callV rfl rfl rfl (fun I1 T1 hq => ?_) (fun x I1 T1 hq => ?_) hq
  · refine ev_seq 4 (ip' := 7) (loc' := [some (.ref 0), some (.int x1), some (.int x2)]) (st' := [(.int 5), (.int 0), (.int x2), (.ref 0)]) (I1 := I1) (T1 := T1) rfl ?_
    refine ev_callI rfl rfl rfl (fun v2 I2 T2 hq => ?_) (fun x I1 T1 hq => ?_) hq
    · refine ev_callV rfl rfl rfl (fun I3 T3 hq => ?_) (fun x I1 T1 hq => ?_) hq
      · refine ev_seq 1 (ip' := 10) (loc' := [some (.ref 0), some (.int x1), some (.int x2)]) (st' := [(.int x2)]) (I1 := I3) (T1 := T3) rfl ?_
        refine ev_jp rfl rfl ?_
        exact hq
      · exact ⟨by decide, hq⟩
    · exact hq.elim
  · exact ⟨by decide, hq⟩
def t_X_feeling_11 (E : MEnv) (I : II) (T : TT) (Q : QQ) (x1 : Int32) : Prop := ev E 125 0 [some (.ref 3), some (.int x1)] [] I T (KI (fun v1 I1 T1 => Q (.inl (some (.int v1))) I1 T1) (fun x I1 T1 => Q (.inr x) I1 T1))
theorem s_X_feeling_11 {E : MEnv} {I : II} {T : TT} {Q : QQ} {x1 : Int32} (hq : t_X_feeling_11 E I T Q x1) : ev E 187 11 [some (.ref 0), some (.int x1), none] [] I T Q := by
  unfold t_X_feeling_11 at hq
  refine ev_seq 3 (ip' := 14) (loc' := [some (.ref 0), some (.int x1), none]) (st' := [(.int x1), (.ref 3)]) (I1 := I) (T1 := T) rfl ?_
  refine ev_callI rfl rfl rfl (fun v1 I1 T1 hq => ?_) (fun x I1 T1 hq => ?_) hq
  · exact ev_ret rfl rfl hq
  · exact ⟨by decide, hq⟩
def t_X_feeling_16 (E : MEnv) (I : II) (T : TT) (Q : QQ) (x1 : Int32) : Prop := ev E 126 0 [some (.ref 3), some (.int x1)] [] I T (KI (fun v1 I1 T1 => Q (.inl (some (.int v1))) I1 T1) (fun x I1 T1 => Q (.inr x) I1 T1))
theorem s_X_feeling_16 {E : MEnv} {I : II} {T : TT} {Q : QQ} {x1 : Int32} (hq : t_X_feeling_16 E I T Q x1) : ev E 187 16 [some (.ref 0), some (.int x1), none] [] I T Q := by
  unfold t_X_feeling_16 at hq
  refine ev_seq 3 (ip' := 19) (loc' := [some (.ref 0), some (.int x1), none]) (st' := [(.int x1), (.ref 3)]) (I1 := I) (T1 := T) rfl ?_
  refine ev_callI rfl rfl rfl (fun v1 I1 T1 hq => ?_) (fun x I1 T1 hq => ?_) hq
  · exact ev_ret rfl rfl hq
  · exact ⟨by decide, hq⟩
def t_X_feeling_21 (E : MEnv) (I : II) (T : TT) (Q : QQ) (x1 : Int32) : Prop := ev E 109 0 [some (.ref 28), some (.int x1)] [] I T (KI (fun v1 I1 T1 => Q (.inl (some (.int v1))) I1 T1) (fun x I1 T1 => Q (.inr x) I1 T1))
theorem s_X_feeling_21 {E : MEnv} {I : II} {T : TT} {Q : QQ} {x1 : Int32} (hq : t_X_feeling_21 E I T Q x1) : ev E 187 21 [some (.ref 0), some (.int x1), none] [] I T Q := by
  unfold t_X_feeling_21 at hq
  refine ev_seq 3 (ip' := 24) (loc' := [some (.ref 0), some (.int x1), none]) (st' := [(.int x1), (.ref 28)]) (I1 := I) (T1 := T) rfl ?_
  refine ev_callI rfl rfl rfl (fun v1 I1 T1 hq => ?_) (fun x I1 T1 hq => ?_) hq
  · exact ev_ret rfl rfl hq
  · exact ⟨by decide, hq⟩
def t_X_feeling_26 (E : MEnv) (I : II) (T : TT) (Q : QQ) (x1 : Int32) : Prop := ev E 113 0 [some (.ref 28), some (.int x1)] [] I T (KI (fun v1 I1 T1 => Q (.inl (some (.int v1))) I1 T1) (fun x I1 T1 => Q (.inr x) I1 T1))
theorem s_X_feeling_26 {E : MEnv} {I : II} {T : TT} {Q : QQ} {x1 : Int32} (hq : t_X_feeling_26 E I T Q x1) : ev E 187 26 [some (.ref 0), some (.int x1), none] [] I T Q := by
  unfold t_X_feeling_26 at hq
  refine ev_seq 3 (ip' := 29) (loc' := [some (.ref 0), some (.int x1), none]) (st' := [(.int x1), (.ref 28)]) (I1 := I) (T1 := T) rfl ?_
  refine ev_callI rfl rfl rfl (fun v1 I1 T1 hq => ?_) (fun x I1 T1 hq => ?_) hq
  · exact ev_ret rfl rfl hq
  · exact ⟨by decide, hq⟩
def t_X_feeling_31 (E : MEnv) (I : II) (T : TT) (Q : QQ) (x1 : Int32) : Prop := ev E 127 0 [some (.ref 28), some (.int x1)] [] I T (KI (fun v1 I1 T1 => Q (.inl (some (.int v1))) I1 T1) (fun x I1 T1 => Q (.inr x) I1 T1))
theorem s_X_feeling_31 {E : MEnv} {I : II} {T : TT} {Q : QQ} {x1 : Int32} (hq : t_X_feeling_31 E I T Q x1) : ev E 187 31 [some (.ref 0), some (.int x1), none] [] I T Q := by
  unfold t_X_feeling_31 at hq
  refine ev_seq 3 (ip' := 34) (loc' := [some (.ref 0), some (.int x1), none]) (st' := [(.int x1), (.ref 28)]) (I1 := I) (T1 := T) rfl ?_
  refine ev_callI rfl rfl rfl (fun v1 I1 T1 hq => ?_) (fun x I1 T1 hq => ?_) hq
  · exact ev_ret rfl rfl hq
  · exact ⟨by decide, hq⟩
def t_X_feeling_36 (E : MEnv) (I : II) (T : TT) (Q : QQ) (x1 : Int32) : Prop := ev E 111 0 [some (.ref 3), some (.int x1)] [] I T (KI (fun v1 I1 T1 => Q (.inl (some (.int v1))) I1 T1) (fun x I1 T1 => Q (.inr x) I1 T1))
theorem s_X_feeling_36 {E : MEnv} {I : II} {T : TT} {Q : QQ} {x1 : Int32} (hq : t_X_feeling_36 E I T Q x1) : ev E 187 36 [some (.ref 0), some (.int x1), none] [] I T Q := by
  unfold t_X_feeling_36 at hq
  refine ev_seq 3 (ip' := 39) (loc' := [some (.ref 0), some (.int x1), none]) (st' := [(.int x1), (.ref 3)]) (I1 := I) (T1 := T) rfl ?_
  refine ev_callI rfl rfl rfl (fun v1 I1 T1 hq => ?_) (fun x I1 T1 hq => ?_) hq
  · exact ev_ret rfl rfl hq
  · exact ⟨by decide, hq⟩
/-- FeltHarness.fits(I)I -/
def t_X_fits_24 (E : MEnv) (I : II) (T : TT) (Q : QQ) (y0 : Int32) : Prop := Q (.inl (some (.int y0))) I T
theorem s_X_fits_24 {E : MEnv} {I : II} {T : TT} {Q : QQ} {y0 : Int32} (hq : t_X_fits_24 E I T Q y0) : ev E 248 24 [none, none] [(.int y0)] I T Q := by
  unfold t_X_fits_24 at hq
  exact ev_ret rfl rfl hq
def t_X_fits_0 (E : MEnv) (I : II) (T : TT) (Q : QQ) (x1 : Int32) : Prop := ev E 27 0 [some (.int x1), some (.int 0), some (.int 1)] [] I T (KI (fun v1 I1 T1 => ev E 28 0 [some (.ref 0), some (.int v1)] [] I1 T1 (KV (fun I2 T2 => ev E 249 0 [some (.ref 44), some (.ref 28), some (.ref 30), some (.ref 20), none, none] [] I2 T2 (KV (fun I3 T3 => (x1 = 0 → (t_X_fits_24 E I3 T3 Q (I3 44 1))) ∧ (¬ (x1 = 0) → (t_X_fits_24 E I3 T3 Q (I3 44 2)))) (fun x I1 T1 => Q (.inr x) I1 T1))) (fun x I1 T1 => Q (.inr x) I1 T1))) (fun _ _ _ => False))
theorem s_X_fits_0 {E : MEnv} {I : II} {T : TT} {Q : QQ} {x1 : Int32} (hq : t_X_fits_0 E I T Q x1) : ev E 248 0 [some (.ref 0), some (.int x1)] [] I T Q := by
  unfold t_X_fits_0 at hq
  refine ev_seq 4 (ip' := 4) (loc' := [some (.ref 0), some (.int x1)]) (st' := [(.int 1), (.int 0), (.int x1), (.ref 0)]) (I1 := I) (T1 := T) rfl ?_
  refine ev_callI rfl rfl rfl (fun v1 I1 T1 hq => ?_) (fun x I1 T1 hq => ?_) hq
  · refine ev_callV rfl rfl rfl (fun I2 T2 hq => ?_) (fun x I1 T1 hq => ?_) hq
    · refine ev_seq 8 (ip' := 14) (loc' := [some (.ref 0), some (.int x1)]) (st' := [(.ref 20), (.ref 30), (.ref 28), (.ref 44)]) (I1 := I2) (T1 := T2) rfl ?_
      refine ev_callV rfl rfl rfl (fun I3 T3 hq => ?_) (fun x I1 T1 hq => ?_) hq
      · refine ev_seq 1 (ip' := 16) (loc' := [some (.ref 0), some (.int x1)]) (st' := [(.int x1)]) (I1 := I3) (T1 := T3) rfl ?_
        refine ev_br (p := x1 = 0) (a := 17) (b := 21) (st' := []) inferInstance rfl rfl (fun hb => ?_) (fun hb => ?_)
        · have hq := hq.1 hb
          refine ev_seq 4 (ip' := 24) (loc' := [some (.ref 0), some (.int x1)]) (st' := [(.int (I3 44 1))]) (I1 := I3) (T1 := T3) rfl ?_
          refine ev_fg [false, false] (loc' := [none, none]) rfl ?_
          exact s_X_fits_24 (T := T3) hq
        · have hq := hq.2 hb
          refine ev_seq 3 (ip' := 24) (loc' := [some (.ref 0), some (.int x1)]) (st' := [(.int (I3 44 2))]) (I1 := I3) (T1 := T3) rfl ?_
          refine ev_fg [false, false] (loc' := [none, none]) rfl ?_
          exact s_X_fits_24 (T := T3) hq
      · exact ⟨by decide, hq⟩
    · exact ⟨by decide, hq⟩
  · exact hq.elim
/-- FeltHarness.force(II)I -/
def t_X_force_0 (E : MEnv) (I : II) (T : TT) (Q : QQ) (x1 : Int32) (x2 : Int32) : Prop := ev E 188 0 [some (.ref 0), some (.int x1)] [] I T (KV (fun I1 T1 => ev E 198 0 [some (.int x2)] [] I1 T1 (KI (fun v2 I2 T2 => ev E 28 0 [some (.ref 0), some (.int v2)] [] I2 T2 (KV (fun I3 T3 => ev E 122 0 [some (.ref 28)] [] I3 T3 (KI (fun v4 I4 T4 => ev E 124 0 [some (.ref 28), some (.int x1), some (.int x2), some (.int v4)] [] I4 T4 (KI (fun v5 I5 T5 => Q (.inl (some (.int v5))) I5 T5) (fun x I1 T1 => Q (.inr x) I1 T1))) (fun x I1 T1 => Q (.inr x) I1 T1))) (fun x I1 T1 => Q (.inr x) I1 T1))) (fun _ _ _ => False))) (fun x I1 T1 => Q (.inr x) I1 T1))
theorem s_X_force_0 {E : MEnv} {I : II} {T : TT} {Q : QQ} {x1 : Int32} {x2 : Int32} (hq : t_X_force_0 E I T Q x1 x2) : ev E 202 0 [some (.ref 0), some (.int x1), some (.int x2)] [] I T Q := by
  unfold t_X_force_0 at hq
  refine ev_seq 2 (ip' := 2) (loc' := [some (.ref 0), some (.int x1), some (.int x2)]) (st' := [(.int x1), (.ref 0)]) (I1 := I) (T1 := T) rfl ?_
  refine ev_callV rfl rfl rfl (fun I1 T1 hq => ?_) (fun x I1 T1 hq => ?_) hq
  · refine ev_seq 2 (ip' := 5) (loc' := [some (.ref 0), some (.int x1), some (.int x2)]) (st' := [(.int x2), (.ref 0)]) (I1 := I1) (T1 := T1) rfl ?_
    refine ev_callI rfl rfl rfl (fun v2 I2 T2 hq => ?_) (fun x I1 T1 hq => ?_) hq
    · refine ev_callV rfl rfl rfl (fun I3 T3 hq => ?_) (fun x I1 T1 hq => ?_) hq
      · refine ev_seq 6 (ip' := 13) (loc' := [some (.ref 0), some (.int x1), some (.int x2)]) (st' := [(.ref 28), (.int x2), (.int x1), (.ref 28)]) (I1 := I3) (T1 := T3) rfl ?_
        refine ev_callI rfl rfl rfl (fun v4 I4 T4 hq => ?_) (fun x I1 T1 hq => ?_) hq
        · refine ev_callI rfl rfl rfl (fun v5 I5 T5 hq => ?_) (fun x I1 T1 hq => ?_) hq
          · exact ev_ret rfl rfl hq
          · exact ⟨by decide, hq⟩
        · exact ⟨by decide, hq⟩
      · exact ⟨by decide, hq⟩
    · exact hq.elim
  · exact ⟨by decide, hq⟩
/-- FeltHarness.house(I)I -/
def t_X_house_0 (E : MEnv) (I : II) (T : TT) (Q : QQ) (x1 : Int32) : Prop := ev E 26 0 [some (.ref 0), some (.int x1), some (.int 600)] [] I T (KV (fun I1 T1 => ev E 29 0 [some (.ref 1), some (.int x1)] [] I1 T1 (KV (fun I2 T2 => ev E 30 0 [some (.ref 9), some (.ref 1), none] [] I2 T2 (KV (fun I3 T3 => ev E 31 0 [some (.ref 1)] [] I3 T3 (KI (fun v4 I4 T4 => (v4 = 0 → (Q (.inl (some (.int ((I4 1 5) - 10)))) I4 T4)) ∧ (¬ (v4 = 0) → (ev E 53 0 [some (.ref 36)] [] I4 T4 (KV (fun I5 T5 => ev E 54 0 [some (.ref 3), some (.ref 9)] [] I5 T5 (KV (fun I6 T6 => ev E 5 0 [some (.ref 15)] [] I6 T6 (KV (fun I7 T7 => ev E 9 0 [some (.ref 20), none] [] I7 T7 (KV (fun I8 T8 => ev E 55 0 [some (.ref 32)] [] I8 T8 (KV (fun I9 T9 => ev E 16 0 [some (.ref 28), none] [] I9 T9 (KV (fun I10 T10 => Q (.inl (some (.int ((m_up I10 0 13 0) 3 5)))) (m_up I10 0 13 0) T10) (fun x I1 T1 => Q (.inr x) I1 T1))) (fun x I1 T1 => Q (.inr x) I1 T1))) (fun x I1 T1 => Q (.inr x) I1 T1))) (fun x I1 T1 => Q (.inr x) I1 T1))) (fun x I1 T1 => Q (.inr x) I1 T1))) (fun x I1 T1 => Q (.inr x) I1 T1))))) (fun x I1 T1 => Q (.inr x) I1 T1))) (fun x I1 T1 => Q (.inr x) I1 T1))) (fun x I1 T1 => Q (.inr x) I1 T1))) (fun x I1 T1 => Q (.inr x) I1 T1))
theorem s_X_house_0 {E : MEnv} {I : II} {T : TT} {Q : QQ} {x1 : Int32} (hq : t_X_house_0 E I T Q x1) : ev E 25 0 [some (.ref 0), some (.int x1)] [] I T Q := by
  unfold t_X_house_0 at hq
  refine ev_seq 3 (ip' := 3) (loc' := [some (.ref 0), some (.int x1)]) (st' := [(.int 600), (.int x1), (.ref 0)]) (I1 := I) (T1 := T) rfl ?_
  refine ev_callV rfl rfl rfl (fun I1 T1 hq => ?_) (fun x I1 T1 hq => ?_) hq
  · refine ev_seq 3 (ip' := 7) (loc' := [some (.ref 0), some (.int x1)]) (st' := [(.int x1), (.ref 1)]) (I1 := I1) (T1 := T1) rfl ?_
    refine ev_callV rfl rfl rfl (fun I2 T2 hq => ?_) (fun x I1 T1 hq => ?_) hq
    · refine ev_seq 4 (ip' := 12) (loc' := [some (.ref 0), some (.int x1)]) (st' := [(.ref 1), (.ref 9)]) (I1 := I2) (T1 := T2) rfl ?_
      refine ev_callV rfl rfl rfl (fun I3 T3 hq => ?_) (fun x I1 T1 hq => ?_) hq
      · refine ev_seq 2 (ip' := 15) (loc' := [some (.ref 0), some (.int x1)]) (st' := [(.ref 1)]) (I1 := I3) (T1 := T3) rfl ?_
        refine ev_callI rfl rfl rfl (fun v4 I4 T4 hq => ?_) (fun x I1 T1 hq => ?_) hq
        · refine ev_br (p := v4 = 0) (a := 17) (b := 23) (st' := []) inferInstance rfl rfl (fun hb => ?_) (fun hb => ?_)
          · have hq := hq.1 hb
            refine ev_seq 5 (ip' := 22) (loc' := [some (.ref 0), some (.int x1)]) (st' := [(.int ((I4 1 5) - 10))]) (I1 := I4) (T1 := T4) rfl ?_
            exact ev_ret rfl rfl hq
          · have hq := hq.2 hb
            refine ev_seq 2 (ip' := 25) (loc' := [some (.ref 0), some (.int x1)]) (st' := [(.ref 36)]) (I1 := I4) (T1 := T4) rfl ?_
            refine ev_callV rfl rfl rfl (fun I5 T5 hq => ?_) (fun x I1 T1 hq => ?_) hq
            · refine ev_seq 4 (ip' := 30) (loc' := [some (.ref 0), some (.int x1)]) (st' := [(.ref 9), (.ref 3)]) (I1 := I5) (T1 := T5) rfl ?_
              refine ev_callV rfl rfl rfl (fun I6 T6 hq => ?_) (fun x I1 T1 hq => ?_) hq
              · refine ev_seq 2 (ip' := 33) (loc' := [some (.ref 0), some (.int x1)]) (st' := [(.ref 15)]) (I1 := I6) (T1 := T6) rfl ?_
                refine ev_callV rfl rfl rfl (fun I7 T7 hq => ?_) (fun x I1 T1 hq => ?_) hq
                · refine ev_seq 2 (ip' := 36) (loc' := [some (.ref 0), some (.int x1)]) (st' := [(.ref 20)]) (I1 := I7) (T1 := T7) rfl ?_
                  refine ev_callV rfl rfl rfl (fun I8 T8 hq => ?_) (fun x I1 T1 hq => ?_) hq
                  · refine ev_seq 2 (ip' := 39) (loc' := [some (.ref 0), some (.int x1)]) (st' := [(.ref 32)]) (I1 := I8) (T1 := T8) rfl ?_
                    refine ev_callV rfl rfl rfl (fun I9 T9 hq => ?_) (fun x I1 T1 hq => ?_) hq
                    · refine ev_seq 2 (ip' := 42) (loc' := [some (.ref 0), some (.int x1)]) (st' := [(.ref 28)]) (I1 := I9) (T1 := T9) rfl ?_
                      refine ev_callV rfl rfl rfl (fun I10 T10 hq => ?_) (fun x I1 T1 hq => ?_) hq
                      · refine ev_seq 6 (ip' := 49) (loc' := [some (.ref 0), some (.int x1)]) (st' := [(.int ((m_up I10 0 13 0) 3 5))]) (I1 := m_up I10 0 13 0) (T1 := T10) rfl ?_
                        exact ev_ret rfl rfl hq
                      · exact ⟨by decide, hq⟩
                    · exact ⟨by decide, hq⟩
                  · exact ⟨by decide, hq⟩
                · exact ⟨by decide, hq⟩
              · exact ⟨by decide, hq⟩
            · exact ⟨by decide, hq⟩
        · exact ⟨by decide, hq⟩
      · exact ⟨by decide, hq⟩
    · exact ⟨by decide, hq⟩
  · exact ⟨by decide, hq⟩
/-- FeltHarness.image()I -/
def t_X_image_0 (E : MEnv) (I : II) (T : TT) (Q : QQ) : Prop := ((I 32 4) < 3 → (ev E 325 0 [some (.ref 32), some (.ref 28), none] [] I T (KV (fun I1 T1 => Q (.inl (some (.int (I1 32 4)))) I1 T1) (fun x I1 T1 => Q (.inr x) I1 T1)))) ∧ (¬ ((I 32 4) < 3) → (Q (.inl (some (.int (-1)))) I T))
theorem s_X_image_0 {E : MEnv} {I : II} {T : TT} {Q : QQ} (hq : t_X_image_0 E I T Q) : ev E 324 0 [some (.ref 0)] [] I T Q := by
  unfold t_X_image_0 at hq
  refine ev_seq 4 (ip' := 4) (loc' := [some (.ref 0)]) (st' := [(.int 3), (.int (I 32 4))]) (I1 := I) (T1 := T) rfl ?_
  refine ev_br (p := (I 32 4) < 3) (a := 7) (b := 5) (st' := []) inferInstance rfl rfl (fun hb => ?_) (fun hb => ?_)
  · have hq := hq.1 hb
    refine ev_seq 4 (ip' := 11) (loc' := [some (.ref 0)]) (st' := [(.ref 28), (.ref 32)]) (I1 := I) (T1 := T) rfl ?_
    refine ev_callV rfl rfl rfl (fun I1 T1 hq => ?_) (fun x I1 T1 hq => ?_) hq
    · refine ev_seq 3 (ip' := 15) (loc' := [some (.ref 0)]) (st' := [(.int (I1 32 4))]) (I1 := I1) (T1 := T1) rfl ?_
      exact ev_ret rfl rfl hq
    · exact ⟨by decide, hq⟩
  · have hq := hq.2 hb
    refine ev_seq 1 (ip' := 6) (loc' := [some (.ref 0)]) (st' := [(.int (-1))]) (I1 := I) (T1 := T) rfl ?_
    exact ev_ret rfl rfl hq
/-- FeltHarness.isPlace(I)Z -/
def t_X_isPlace_0 (E : MEnv) (I : II) (T : TT) (Q : QQ) (x0 : Int32) : Prop := ev E 27 0 [some (.int x0), some (.int 0), some (.int 3)] [] I T (KI (fun v1 I1 T1 => (v1 = 0 ∨ v1 = 1) ∧ Q (.inl (some (.int v1))) I1 T1) (fun _ _ _ => False))
theorem s_X_isPlace_0 {E : MEnv} {I : II} {T : TT} {Q : QQ} {x0 : Int32} (hq : t_X_isPlace_0 E I T Q x0) : ev E 198 0 [some (.int x0)] [] I T Q := by
  unfold t_X_isPlace_0 at hq
  refine ev_seq 3 (ip' := 3) (loc' := [some (.int x0)]) (st' := [(.int 3), (.int 0), (.int x0)]) (I1 := I) (T1 := T) rfl ?_
  refine ev_callI rfl rfl rfl (fun v1 I1 T1 hq => ?_) (fun x I1 T1 hq => ?_) hq
  · exact ev_retb rfl rfl hq.1 hq.2
  · exact hq.elim
/-- FeltHarness.journey()I -/
def t_X_journey_24 (E : MEnv) (I : II) (T : TT) (Q : QQ) (x1 : Int32) : Prop := Q (.inl (some (.int x1))) I T
theorem s_X_journey_24 {E : MEnv} {I : II} {T : TT} {Q : QQ} {x1 : Int32} (hq : t_X_journey_24 E I T Q x1) : ev E 211 24 [none, some (.int x1), none] [] I T Q := by
  unfold t_X_journey_24 at hq
  refine ev_seq 1 (ip' := 25) (loc' := [none, some (.int x1), none]) (st' := [(.int x1)]) (I1 := I) (T1 := T) rfl ?_
  exact ev_ret rfl rfl hq
def t_X_journey_9 (E : MEnv) (I : II) (T : TT) (Q : QQ) (x1 : Int32) (x2 : Int32) : Prop := (6 ≤ x2 → (Q (.inl (some (.int x1))) I T)) ∧ (¬ (6 ≤ x2) → (ev E 114 0 [some (.ref 30)] [] I T (KI (fun v1 I1 T1 => (v1 = 0 → (t_X_journey_24 E I1 T1 Q x1)) ∧ (¬ (v1 = 0) → (ev E 115 0 [some (.ref 30)] [] I1 T1 (KI (fun v2 I2 T2 => ev E 209 0 [some (.ref 30), some (.int v2)] [] I2 T2 (KI (fun v3 I3 T3 => (v3 = 2 → (ev E 115 0 [some (.ref 30)] [] I3 T3 (KI (fun v4 I4 T4 => ev E 120 0 [some (.ref 30), some (.int v4), none, none, none] [] I4 T4 (KV (fun I5 T5 => ev E 211 9 [some (.ref 0), some (.int (x1 + 1)), some (.int (x2 + 1))] [] I5 T5 Q) (fun x I1 T1 => Q (.inr x) I1 T1))) (fun x I1 T1 => Q (.inr x) I1 T1)))) ∧ (¬ (v3 = 2) → (t_X_journey_24 E I3 T3 Q x1))) (fun x I1 T1 => Q (.inr x) I1 T1))) (fun x I1 T1 => Q (.inr x) I1 T1))))) (fun x I1 T1 => Q (.inr x) I1 T1))))
theorem s_X_journey_9 {E : MEnv} {I : II} {T : TT} {Q : QQ} {x1 : Int32} {x2 : Int32} (hq : t_X_journey_9 E I T Q x1 x2) : ev E 211 9 [some (.ref 0), some (.int x1), some (.int x2)] [] I T Q := by
  unfold t_X_journey_9 at hq
  refine ev_seq 2 (ip' := 11) (loc' := [some (.ref 0), some (.int x1), some (.int x2)]) (st' := [(.int 6), (.int x2)]) (I1 := I) (T1 := T) rfl ?_
  refine ev_br (p := 6 ≤ x2) (a := 35) (b := 12) (st' := []) inferInstance rfl rfl (fun hb => ?_) (fun hb => ?_)
  · have hq := hq.1 hb
    refine ev_seq 1 (ip' := 36) (loc' := [some (.ref 0), some (.int x1), some (.int x2)]) (st' := [(.int x1)]) (I1 := I) (T1 := T) rfl ?_
    exact ev_ret rfl rfl hq
  · have hq := hq.2 hb
    refine ev_seq 2 (ip' := 14) (loc' := [some (.ref 0), some (.int x1), some (.int x2)]) (st' := [(.ref 30)]) (I1 := I) (T1 := T) rfl ?_
    refine ev_callI rfl rfl rfl (fun v1 I1 T1 hq => ?_) (fun x I1 T1 hq => ?_) hq
    · refine ev_br (p := v1 = 0) (a := 24) (b := 16) (st' := []) inferInstance rfl rfl (fun hb => ?_) (fun hb => ?_)
      · have hq := hq.1 hb
        refine ev_fg [false, true, false] (loc' := [none, some (.int x1), none]) rfl ?_
        exact s_X_journey_24 (T := T1) hq
      · have hq := hq.2 hb
        refine ev_seq 4 (ip' := 20) (loc' := [some (.ref 0), some (.int x1), some (.int x2)]) (st' := [(.ref 30), (.ref 30)]) (I1 := I1) (T1 := T1) rfl ?_
        refine ev_callI rfl rfl rfl (fun v2 I2 T2 hq => ?_) (fun x I1 T1 hq => ?_) hq
        · refine ev_callI rfl rfl rfl (fun v3 I3 T3 hq => ?_) (fun x I1 T1 hq => ?_) hq
          · refine ev_seq 1 (ip' := 23) (loc' := [some (.ref 0), some (.int x1), some (.int x2)]) (st' := [(.int 2), (.int v3)]) (I1 := I3) (T1 := T3) rfl ?_
            refine ev_br (p := v3 = 2) (a := 26) (b := 24) (st' := []) inferInstance rfl rfl (fun hb => ?_) (fun hb => ?_)
            · have hq := hq.1 hb
              refine ev_seq 4 (ip' := 30) (loc' := [some (.ref 0), some (.int x1), some (.int x2)]) (st' := [(.ref 30), (.ref 30)]) (I1 := I3) (T1 := T3) rfl ?_
              refine ev_callI rfl rfl rfl (fun v4 I4 T4 hq => ?_) (fun x I1 T1 hq => ?_) hq
              · refine ev_callV rfl rfl rfl (fun I5 T5 hq => ?_) (fun x I1 T1 hq => ?_) hq
                · refine ev_seq 3 (ip' := 9) (loc' := [some (.ref 0), some (.int (x1 + 1)), some (.int (x2 + 1))]) (st' := []) (I1 := I5) (T1 := T5) rfl ?_
                  exact hq
                · exact ⟨by decide, hq⟩
              · exact ⟨by decide, hq⟩
            · have hq := hq.2 hb
              refine ev_fg [false, true, false] (loc' := [none, some (.int x1), none]) rfl ?_
              exact s_X_journey_24 (T := T3) hq
          · exact ⟨by decide, hq⟩
        · exact ⟨by decide, hq⟩
    · exact ⟨by decide, hq⟩
def t_X_journey_0 (E : MEnv) (I : II) (T : TT) (Q : QQ) : Prop := ev E 212 0 [some (.ref 30), some (.ref 28)] [] I T (KV (fun I1 T1 => t_X_journey_9 E I1 T1 Q 0 0) (fun x I1 T1 => Q (.inr x) I1 T1))
theorem s_X_journey_0 {E : MEnv} {I : II} {T : TT} {Q : QQ} (hq : t_X_journey_0 E I T Q) : ev E 211 0 [some (.ref 0), none, none] [] I T Q := by
  unfold t_X_journey_0 at hq
  refine ev_seq 4 (ip' := 4) (loc' := [some (.ref 0), none, none]) (st' := [(.ref 28), (.ref 30)]) (I1 := I) (T1 := T) rfl ?_
  refine ev_callV rfl rfl rfl (fun I1 T1 hq => ?_) (fun x I1 T1 hq => ?_) hq
  · refine ev_seq 4 (ip' := 9) (loc' := [some (.ref 0), some (.int 0), some (.int 0)]) (st' := []) (I1 := I1) (T1 := T1) rfl ?_
    exact s_X_journey_9 (T := T1) hq
  · exact ⟨by decide, hq⟩
/-- FeltHarness.law(I)I -/
def t_X_law_27 (E : MEnv) (I : II) (T : TT) (Q : QQ) (y0 : Int32) : Prop := Q (.inl (some (.int y0))) I T
theorem s_X_law_27 {E : MEnv} {I : II} {T : TT} {Q : QQ} {y0 : Int32} (hq : t_X_law_27 E I T Q y0) : ev E 78 27 [none, none] [(.int y0)] I T Q := by
  unfold t_X_law_27 at hq
  exact ev_ret rfl rfl hq
def t_X_law_0 (E : MEnv) (I : II) (T : TT) (Q : QQ) (x1 : Int32) : Prop := ev E 26 0 [some (.ref 0), some (.int x1), some (.int 150)] [] I T (KV (fun I1 T1 => ev E 29 0 [some (.ref 1), some (.int x1)] [] I1 T1 (KV (fun I2 T2 => ev E 53 0 [some (.ref 36)] [] I2 T2 (KV (fun I3 T3 => ev E 79 0 [some (.ref 15), some (.ref 1)] [] I3 T3 (KV (fun I4 T4 => ev E 31 0 [some (.ref 1)] [] I4 T4 (KI (fun v5 I5 T5 => (v5 = 0 → (t_X_law_27 E I5 T5 Q ((I5 1 5) - 10))) ∧ (¬ (v5 = 0) → (t_X_law_27 E I5 T5 Q 1))) (fun x I1 T1 => Q (.inr x) I1 T1))) (fun x I1 T1 => Q (.inr x) I1 T1))) (fun x I1 T1 => Q (.inr x) I1 T1))) (fun x I1 T1 => Q (.inr x) I1 T1))) (fun x I1 T1 => Q (.inr x) I1 T1))
theorem s_X_law_0 {E : MEnv} {I : II} {T : TT} {Q : QQ} {x1 : Int32} (hq : t_X_law_0 E I T Q x1) : ev E 78 0 [some (.ref 0), some (.int x1)] [] I T Q := by
  unfold t_X_law_0 at hq
  refine ev_seq 3 (ip' := 3) (loc' := [some (.ref 0), some (.int x1)]) (st' := [(.int 150), (.int x1), (.ref 0)]) (I1 := I) (T1 := T) rfl ?_
  refine ev_callV rfl rfl rfl (fun I1 T1 hq => ?_) (fun x I1 T1 hq => ?_) hq
  · refine ev_seq 3 (ip' := 7) (loc' := [some (.ref 0), some (.int x1)]) (st' := [(.int x1), (.ref 1)]) (I1 := I1) (T1 := T1) rfl ?_
    refine ev_callV rfl rfl rfl (fun I2 T2 hq => ?_) (fun x I1 T1 hq => ?_) hq
    · refine ev_seq 2 (ip' := 10) (loc' := [some (.ref 0), some (.int x1)]) (st' := [(.ref 36)]) (I1 := I2) (T1 := T2) rfl ?_
      refine ev_callV rfl rfl rfl (fun I3 T3 hq => ?_) (fun x I1 T1 hq => ?_) hq
      · refine ev_seq 4 (ip' := 15) (loc' := [some (.ref 0), some (.int x1)]) (st' := [(.ref 1), (.ref 15)]) (I1 := I3) (T1 := T3) rfl ?_
        refine ev_callV rfl rfl rfl (fun I4 T4 hq => ?_) (fun x I1 T1 hq => ?_) hq
        · refine ev_seq 2 (ip' := 18) (loc' := [some (.ref 0), some (.int x1)]) (st' := [(.ref 1)]) (I1 := I4) (T1 := T4) rfl ?_
          refine ev_callI rfl rfl rfl (fun v5 I5 T5 hq => ?_) (fun x I1 T1 hq => ?_) hq
          · refine ev_br (p := v5 = 0) (a := 22) (b := 20) (st' := []) inferInstance rfl rfl (fun hb => ?_) (fun hb => ?_)
            · have hq := hq.1 hb
              refine ev_seq 5 (ip' := 27) (loc' := [some (.ref 0), some (.int x1)]) (st' := [(.int ((I5 1 5) - 10))]) (I1 := I5) (T1 := T5) rfl ?_
              refine ev_fg [false, false] (loc' := [none, none]) rfl ?_
              exact s_X_law_27 (T := T5) hq
            · have hq := hq.2 hb
              refine ev_seq 2 (ip' := 27) (loc' := [some (.ref 0), some (.int x1)]) (st' := [(.int 1)]) (I1 := I5) (T1 := T5) rfl ?_
              refine ev_fg [false, false] (loc' := [none, none]) rfl ?_
              exact s_X_law_27 (T := T5) hq
          · exact ⟨by decide, hq⟩
        · exact ⟨by decide, hq⟩
      · exact ⟨by decide, hq⟩
    · exact ⟨by decide, hq⟩
  · exact ⟨by decide, hq⟩
/-- FeltHarness.length(I)I -/
def t_X_length_36 (E : MEnv) (I : II) (T : TT) (Q : QQ) (x1 : Int32) (x2 : Int32) (x3 : Int32) : Prop := ev E 309 10 [some (.ref 0), some (.int x1), some (.int x2), some (.int (x3 + 1))] [] I T Q
theorem s_X_length_36 {E : MEnv} {I : II} {T : TT} {Q : QQ} {x1 : Int32} {x2 : Int32} {x3 : Int32} (hq : t_X_length_36 E I T Q x1 x2 x3) : ev E 309 36 [some (.ref 0), some (.int x1), some (.int x2), some (.int x3)] [] I T Q := by
  unfold t_X_length_36 at hq
  refine ev_seq 2 (ip' := 10) (loc' := [some (.ref 0), some (.int x1), some (.int x2), some (.int (x3 + 1))]) (st' := []) (I1 := I) (T1 := T) rfl ?_
  exact hq
def t_X_length_28 (E : MEnv) (I : II) (T : TT) (Q : QQ) (x1 : Int32) (x2 : Int32) (x3 : Int32) (y0 : Int32) (y1 : Int32) : Prop := (y0 = y1 → (ev E 135 0 [some (.ref 3), some (.int x3)] [] I T (KI (fun v1 I1 T1 => t_X_length_36 E I1 T1 Q x1 (x2 + v1) x3) (fun x I1 T1 => Q (.inr x) I1 T1)))) ∧ (¬ (y0 = y1) → (t_X_length_36 E I T Q x1 x2 x3))
theorem s_X_length_28 {E : MEnv} {I : II} {T : TT} {Q : QQ} {x1 : Int32} {x2 : Int32} {x3 : Int32} {y0 : Int32} {y1 : Int32} (hq : t_X_length_28 E I T Q x1 x2 x3 y0 y1) : ev E 309 28 [some (.ref 0), some (.int x1), some (.int x2), some (.int x3)] [(.int y1), (.int y0)] I T Q := by
  unfold t_X_length_28 at hq
  refine ev_br (p := y0 = y1) (a := 29) (b := 36) (st' := []) inferInstance rfl rfl (fun hb => ?_) (fun hb => ?_)
  · have hq := hq.1 hb
    refine ev_seq 4 (ip' := 33) (loc' := [some (.ref 0), some (.int x1), some (.int x2), some (.int x3)]) (st' := [(.int x3), (.ref 3), (.int x2)]) (I1 := I) (T1 := T) rfl ?_
    refine ev_callI rfl rfl rfl (fun v1 I1 T1 hq => ?_) (fun x I1 T1 hq => ?_) hq
    · refine ev_seq 2 (ip' := 36) (loc' := [some (.ref 0), some (.int x1), some (.int (x2 + v1)), some (.int x3)]) (st' := []) (I1 := I1) (T1 := T1) rfl ?_
      exact s_X_length_36 (T := T1) hq
    · exact ⟨by decide, hq⟩
  · have hq := hq.2 hb
    exact s_X_length_36 (T := T) hq
def t_X_length_23 (E : MEnv) (I : II) (T : TT) (Q : QQ) (x1 : Int32) (x2 : Int32) (x3 : Int32) (y0 : Int32) : Prop := (x1 = 0 → (t_X_length_28 E I T Q x1 x2 x3 y0 1)) ∧ (¬ (x1 = 0) → (t_X_length_28 E I T Q x1 x2 x3 y0 0))
theorem s_X_length_23 {E : MEnv} {I : II} {T : TT} {Q : QQ} {x1 : Int32} {x2 : Int32} {x3 : Int32} {y0 : Int32} (hq : t_X_length_23 E I T Q x1 x2 x3 y0) : ev E 309 23 [some (.ref 0), some (.int x1), some (.int x2), some (.int x3)] [(.int y0)] I T Q := by
  unfold t_X_length_23 at hq
  refine ev_seq 1 (ip' := 24) (loc' := [some (.ref 0), some (.int x1), some (.int x2), some (.int x3)]) (st' := [(.int x1), (.int y0)]) (I1 := I) (T1 := T) rfl ?_
  refine ev_br (p := x1 = 0) (a := 25) (b := 27) (st' := [(.int y0)]) inferInstance rfl rfl (fun hb => ?_) (fun hb => ?_)
  · have hq := hq.1 hb
    refine ev_seq 2 (ip' := 28) (loc' := [some (.ref 0), some (.int x1), some (.int x2), some (.int x3)]) (st' := [(.int 1), (.int y0)]) (I1 := I) (T1 := T) rfl ?_
    exact s_X_length_28 (T := T) hq
  · have hq := hq.2 hb
    refine ev_seq 1 (ip' := 28) (loc' := [some (.ref 0), some (.int x1), some (.int x2), some (.int x3)]) (st' := [(.int 0), (.int y0)]) (I1 := I) (T1 := T) rfl ?_
    exact s_X_length_28 (T := T) hq
def t_X_length_10 (E : MEnv) (I : II) (T : TT) (Q : QQ) (x1 : Int32) (x2 : Int32) (x3 : Int32) : Prop := ((I 3 6) ≤ x3 → (Q (.inl (some (.int x2))) I T)) ∧ (¬ ((I 3 6) ≤ x3) → (ev E 115 0 [some (.ref 28)] [] I T (KI (fun v1 I1 T1 => (v1 ≤ x3 → (t_X_length_23 E I1 T1 Q x1 x2 x3 0)) ∧ (¬ (v1 ≤ x3) → (t_X_length_23 E I1 T1 Q x1 x2 x3 1))) (fun x I1 T1 => Q (.inr x) I1 T1))))
theorem s_X_length_10 {E : MEnv} {I : II} {T : TT} {Q : QQ} {x1 : Int32} {x2 : Int32} {x3 : Int32} (hq : t_X_length_10 E I T Q x1 x2 x3) : ev E 309 10 [some (.ref 0), some (.int x1), some (.int x2), some (.int x3)] [] I T Q := by
  unfold t_X_length_10 at hq
  refine ev_seq 4 (ip' := 14) (loc' := [some (.ref 0), some (.int x1), some (.int x2), some (.int x3)]) (st' := [(.int (I 3 6)), (.int x3)]) (I1 := I) (T1 := T) rfl ?_
  refine ev_br (p := (I 3 6) ≤ x3) (a := 38) (b := 15) (st' := []) inferInstance rfl rfl (fun hb => ?_) (fun hb => ?_)
  · have hq := hq.1 hb
    refine ev_seq 1 (ip' := 39) (loc' := [some (.ref 0), some (.int x1), some (.int x2), some (.int x3)]) (st' := [(.int x2)]) (I1 := I) (T1 := T) rfl ?_
    exact ev_ret rfl rfl hq
  · have hq := hq.2 hb
    refine ev_seq 3 (ip' := 18) (loc' := [some (.ref 0), some (.int x1), some (.int x2), some (.int x3)]) (st' := [(.ref 28), (.int x3)]) (I1 := I) (T1 := T) rfl ?_
    refine ev_callI rfl rfl rfl (fun v1 I1 T1 hq => ?_) (fun x I1 T1 hq => ?_) hq
    · refine ev_br (p := v1 ≤ x3) (a := 22) (b := 20) (st' := []) inferInstance rfl rfl (fun hb => ?_) (fun hb => ?_)
      · have hq := hq.1 hb
        refine ev_seq 1 (ip' := 23) (loc' := [some (.ref 0), some (.int x1), some (.int x2), some (.int x3)]) (st' := [(.int 0)]) (I1 := I1) (T1 := T1) rfl ?_
        exact s_X_length_23 (T := T1) hq
      · have hq := hq.2 hb
        refine ev_seq 2 (ip' := 23) (loc' := [some (.ref 0), some (.int x1), some (.int x2), some (.int x3)]) (st' := [(.int 1)]) (I1 := I1) (T1 := T1) rfl ?_
        exact s_X_length_23 (T := T1) hq
    · exact ⟨by decide, hq⟩
def t_X_length_0 (E : MEnv) (I : II) (T : TT) (Q : QQ) (x1 : Int32) : Prop := ev E 27 0 [some (.int x1), some (.int 0), some (.int 1)] [] I T (KI (fun v1 I1 T1 => ev E 28 0 [some (.ref 0), some (.int v1)] [] I1 T1 (KV (fun I2 T2 => t_X_length_10 E I2 T2 Q x1 0 0) (fun x I1 T1 => Q (.inr x) I1 T1))) (fun _ _ _ => False))
theorem s_X_length_0 {E : MEnv} {I : II} {T : TT} {Q : QQ} {x1 : Int32} (hq : t_X_length_0 E I T Q x1) : ev E 309 0 [some (.ref 0), some (.int x1), none, none] [] I T Q := by
  unfold t_X_length_0 at hq
  refine ev_seq 4 (ip' := 4) (loc' := [some (.ref 0), some (.int x1), none, none]) (st' := [(.int 1), (.int 0), (.int x1), (.ref 0)]) (I1 := I) (T1 := T) rfl ?_
  refine ev_callI rfl rfl rfl (fun v1 I1 T1 hq => ?_) (fun x I1 T1 hq => ?_) hq
  · refine ev_callV rfl rfl rfl (fun I2 T2 hq => ?_) (fun x I1 T1 hq => ?_) hq
    · refine ev_seq 4 (ip' := 10) (loc' := [some (.ref 0), some (.int x1), some (.int 0), some (.int 0)]) (st' := []) (I1 := I2) (T1 := T2) rfl ?_
      exact s_X_length_10 (T := T2) hq
    · exact ⟨by decide, hq⟩
  · exact hq.elim
/-- FeltHarness.look(I)I -/
def t_X_look_53 (E : MEnv) (I : II) (T : TT) (Q : QQ) (y0 : Int32) : Prop := Q (.inl (some (.int y0))) I T
theorem s_X_look_53 {E : MEnv} {I : II} {T : TT} {Q : QQ} {y0 : Int32} (hq : t_X_look_53 E I T Q y0) : ev E 255 53 [none, none, none, none, none, none] [(.int y0)] I T Q := by
  unfold t_X_look_53 at hq
  exact ev_ret rfl rfl hq
def t_X_look_46 (E : MEnv) (I : II) (T : TT) (Q : QQ) (x1 : Int32) (x2 : Int32) (x3 : Int32) (x4 : Int32) : Prop := ev E 255 21 [some (.ref 0), some (.int x1), some (.int x2), some (.int x3), some (.int (x4 + 1)), none] [] I T Q
theorem s_X_look_46 {E : MEnv} {I : II} {T : TT} {Q : QQ} {x1 : Int32} {x2 : Int32} {x3 : Int32} {x4 : Int32} (hq : t_X_look_46 E I T Q x1 x2 x3 x4) : ev E 255 46 [some (.ref 0), some (.int x1), some (.int x2), some (.int x3), some (.int x4), none] [] I T Q := by
  unfold t_X_look_46 at hq
  refine ev_seq 2 (ip' := 21) (loc' := [some (.ref 0), some (.int x1), some (.int x2), some (.int x3), some (.int (x4 + 1)), none]) (st' := []) (I1 := I) (T1 := T) rfl ?_
  exact hq
def t_X_look_42 (E : MEnv) (I : II) (T : TT) (Q : QQ) (x1 : Int32) (x4 : Int32) (x5 : Int32) : Prop := t_X_look_46 E I T Q x1 x4 x5 x4
theorem s_X_look_42 {E : MEnv} {I : II} {T : TT} {Q : QQ} {x1 : Int32} {x4 : Int32} {x5 : Int32} (hq : t_X_look_42 E I T Q x1 x4 x5) : ev E 255 42 [some (.ref 0), some (.int x1), none, none, some (.int x4), some (.int x5)] [] I T Q := by
  unfold t_X_look_42 at hq
  refine ev_seq 4 (ip' := 46) (loc' := [some (.ref 0), some (.int x1), some (.int x4), some (.int x5), some (.int x4), some (.int x5)]) (st' := []) (I1 := I) (T1 := T) rfl ?_
  refine ev_fg [true, true, true, true, true, false] (loc' := [some (.ref 0), some (.int x1), some (.int x4), some (.int x5), some (.int x4), none]) rfl ?_
  exact s_X_look_46 (T := T) hq
def t_X_look_21 (E : MEnv) (I : II) (T : TT) (Q : QQ) (x1 : Int32) (x2 : Int32) (x3 : Int32) (x4 : Int32) : Prop := ((I 3 5) ≤ x4 → ((x1 = 0 → (t_X_look_53 E I T Q x2)) ∧ (¬ (x1 = 0) → (t_X_look_53 E I T Q x3)))) ∧ (¬ ((I 3 5) ≤ x4) → (ev E 256 0 [some (.ref 20), some (.int x4)] [] I T (KI (fun v1 I1 T1 => (v1 = 0 → (ev E 257 0 [some (.ref 44), some (.int x4), none, none, none, none] [] I1 T1 (KI (fun v2 I2 T2 => (x2 = (-1) → (t_X_look_42 E I2 T2 Q x1 x4 v2)) ∧ (¬ (x2 = (-1)) → ((x3 ≤ v2 → (t_X_look_46 E I2 T2 Q x1 x2 x3 x4)) ∧ (¬ (x3 ≤ v2) → (t_X_look_42 E I2 T2 Q x1 x4 v2))))) (fun x I1 T1 => Q (.inr x) I1 T1)))) ∧ (¬ (v1 = 0) → (t_X_look_46 E I1 T1 Q x1 x2 x3 x4))) (fun x I1 T1 => Q (.inr x) I1 T1))))
theorem s_X_look_21 {E : MEnv} {I : II} {T : TT} {Q : QQ} {x1 : Int32} {x2 : Int32} {x3 : Int32} {x4 : Int32} (hq : t_X_look_21 E I T Q x1 x2 x3 x4) : ev E 255 21 [some (.ref 0), some (.int x1), some (.int x2), some (.int x3), some (.int x4), none] [] I T Q := by
  unfold t_X_look_21 at hq
  refine ev_seq 4 (ip' := 25) (loc' := [some (.ref 0), some (.int x1), some (.int x2), some (.int x3), some (.int x4), none]) (st' := [(.int (I 3 5)), (.int x4)]) (I1 := I) (T1 := T) rfl ?_
  refine ev_br (p := (I 3 5) ≤ x4) (a := 48) (b := 26) (st' := []) inferInstance rfl rfl (fun hb => ?_) (fun hb => ?_)
  · have hq := hq.1 hb
    refine ev_seq 1 (ip' := 49) (loc' := [some (.ref 0), some (.int x1), some (.int x2), some (.int x3), some (.int x4), none]) (st' := [(.int x1)]) (I1 := I) (T1 := T) rfl ?_
    refine ev_br (p := x1 = 0) (a := 50) (b := 52) (st' := []) inferInstance rfl rfl (fun hb => ?_) (fun hb => ?_)
    · have hq := hq.1 hb
      refine ev_seq 2 (ip' := 53) (loc' := [some (.ref 0), some (.int x1), some (.int x2), some (.int x3), some (.int x4), none]) (st' := [(.int x2)]) (I1 := I) (T1 := T) rfl ?_
      refine ev_fg [false, false, false, false, false, true] (loc' := [none, none, none, none, none, none]) rfl ?_
      exact s_X_look_53 (T := T) hq
    · have hq := hq.2 hb
      refine ev_seq 1 (ip' := 53) (loc' := [some (.ref 0), some (.int x1), some (.int x2), some (.int x3), some (.int x4), none]) (st' := [(.int x3)]) (I1 := I) (T1 := T) rfl ?_
      refine ev_fg [false, false, false, false, false, true] (loc' := [none, none, none, none, none, none]) rfl ?_
      exact s_X_look_53 (T := T) hq
  · have hq := hq.2 hb
    refine ev_seq 3 (ip' := 29) (loc' := [some (.ref 0), some (.int x1), some (.int x2), some (.int x3), some (.int x4), none]) (st' := [(.int x4), (.ref 20)]) (I1 := I) (T1 := T) rfl ?_
    refine ev_callI rfl rfl rfl (fun v1 I1 T1 hq => ?_) (fun x I1 T1 hq => ?_) hq
    · refine ev_br (p := v1 = 0) (a := 31) (b := 46) (st' := []) inferInstance rfl rfl (fun hb => ?_) (fun hb => ?_)
      · have hq := hq.1 hb
        refine ev_seq 3 (ip' := 34) (loc' := [some (.ref 0), some (.int x1), some (.int x2), some (.int x3), some (.int x4), none]) (st' := [(.int x4), (.ref 44)]) (I1 := I1) (T1 := T1) rfl ?_
        refine ev_callI rfl rfl rfl (fun v2 I2 T2 hq => ?_) (fun x I1 T1 hq => ?_) hq
        · refine ev_seq 3 (ip' := 38) (loc' := [some (.ref 0), some (.int x1), some (.int x2), some (.int x3), some (.int x4), some (.int v2)]) (st' := [(.int (-1)), (.int x2)]) (I1 := I2) (T1 := T2) rfl ?_
          refine ev_br (p := x2 = (-1)) (a := 42) (b := 39) (st' := []) inferInstance rfl rfl (fun hb => ?_) (fun hb => ?_)
          · have hq := hq.1 hb
            refine ev_fg [true, true, false, false, true, true] (loc' := [some (.ref 0), some (.int x1), none, none, some (.int x4), some (.int v2)]) rfl ?_
            exact s_X_look_42 (T := T2) hq
          · have hq := hq.2 hb
            refine ev_seq 2 (ip' := 41) (loc' := [some (.ref 0), some (.int x1), some (.int x2), some (.int x3), some (.int x4), some (.int v2)]) (st' := [(.int x3), (.int v2)]) (I1 := I2) (T1 := T2) rfl ?_
            refine ev_br (p := x3 ≤ v2) (a := 46) (b := 42) (st' := []) inferInstance rfl rfl (fun hb => ?_) (fun hb => ?_)
            · have hq := hq.1 hb
              refine ev_fg [true, true, true, true, true, false] (loc' := [some (.ref 0), some (.int x1), some (.int x2), some (.int x3), some (.int x4), none]) rfl ?_
              exact s_X_look_46 (T := T2) hq
            · have hq := hq.2 hb
              refine ev_fg [true, true, false, false, true, true] (loc' := [some (.ref 0), some (.int x1), none, none, some (.int x4), some (.int v2)]) rfl ?_
              exact s_X_look_42 (T := T2) hq
        · exact ⟨by decide, hq⟩
      · have hq := hq.2 hb
        exact s_X_look_46 (T := T1) hq
    · exact ⟨by decide, hq⟩
def t_X_look_0 (E : MEnv) (I : II) (T : TT) (Q : QQ) (x1 : Int32) : Prop := ev E 27 0 [some (.int x1), some (.int 0), some (.int 1)] [] I T (KI (fun v1 I1 T1 => ev E 28 0 [some (.ref 0), some (.int v1)] [] I1 T1 (KV (fun I2 T2 => ev E 249 0 [some (.ref 44), some (.ref 28), some (.ref 30), some (.ref 20), none, none] [] I2 T2 (KV (fun I3 T3 => t_X_look_21 E I3 T3 Q x1 (-1) (-1) 0) (fun x I1 T1 => Q (.inr x) I1 T1))) (fun x I1 T1 => Q (.inr x) I1 T1))) (fun _ _ _ => False))
theorem s_X_look_0 {E : MEnv} {I : II} {T : TT} {Q : QQ} {x1 : Int32} (hq : t_X_look_0 E I T Q x1) : ev E 255 0 [some (.ref 0), some (.int x1), none, none, none, none] [] I T Q := by
  unfold t_X_look_0 at hq
  refine ev_seq 4 (ip' := 4) (loc' := [some (.ref 0), some (.int x1), none, none, none, none]) (st' := [(.int 1), (.int 0), (.int x1), (.ref 0)]) (I1 := I) (T1 := T) rfl ?_
  refine ev_callI rfl rfl rfl (fun v1 I1 T1 hq => ?_) (fun x I1 T1 hq => ?_) hq
  · refine ev_callV rfl rfl rfl (fun I2 T2 hq => ?_) (fun x I1 T1 hq => ?_) hq
    · refine ev_seq 8 (ip' := 14) (loc' := [some (.ref 0), some (.int x1), none, none, none, none]) (st' := [(.ref 20), (.ref 30), (.ref 28), (.ref 44)]) (I1 := I2) (T1 := T2) rfl ?_
      refine ev_callV rfl rfl rfl (fun I3 T3 hq => ?_) (fun x I1 T1 hq => ?_) hq
      · refine ev_seq 6 (ip' := 21) (loc' := [some (.ref 0), some (.int x1), some (.int (-1)), some (.int (-1)), some (.int 0), none]) (st' := []) (I1 := I3) (T1 := T3) rfl ?_
        exact s_X_look_21 (T := T3) hq
      · exact ⟨by decide, hq⟩
    · exact ⟨by decide, hq⟩
  · exact hq.elim
/-- FeltHarness.loosest(I)I -/
def t_X_loosest_45 (E : MEnv) (I : II) (T : TT) (Q : QQ) (y0 : Int32) : Prop := Q (.inl (some (.int y0))) I T
theorem s_X_loosest_45 {E : MEnv} {I : II} {T : TT} {Q : QQ} {y0 : Int32} (hq : t_X_loosest_45 E I T Q y0) : ev E 284 45 [none, none, none, none, none] [(.int y0)] I T Q := by
  unfold t_X_loosest_45 at hq
  exact ev_ret rfl rfl hq
def t_X_loosest_38 (E : MEnv) (I : II) (T : TT) (Q : QQ) (x1 : Int32) (x2 : Int32) (x3 : Int32) (x4 : Int32) : Prop := ev E 284 12 [some (.ref 0), some (.int x1), some (.int x2), some (.int x3), some (.int (x4 + 1))] [] I T Q
theorem s_X_loosest_38 {E : MEnv} {I : II} {T : TT} {Q : QQ} {x1 : Int32} {x2 : Int32} {x3 : Int32} {x4 : Int32} (hq : t_X_loosest_38 E I T Q x1 x2 x3 x4) : ev E 284 38 [some (.ref 0), some (.int x1), some (.int x2), some (.int x3), some (.int x4)] [] I T Q := by
  unfold t_X_loosest_38 at hq
  refine ev_seq 2 (ip' := 12) (loc' := [some (.ref 0), some (.int x1), some (.int x2), some (.int x3), some (.int (x4 + 1))]) (st' := []) (I1 := I) (T1 := T) rfl ?_
  exact hq
def t_X_loosest_31 (E : MEnv) (I : II) (T : TT) (Q : QQ) (x1 : Int32) (x4 : Int32) : Prop := ev E 113 0 [some (.ref 28), some (.int x4)] [] I T (KI (fun v1 I1 T1 => t_X_loosest_38 E I1 T1 Q x1 x4 v1 x4) (fun x I1 T1 => Q (.inr x) I1 T1))
theorem s_X_loosest_31 {E : MEnv} {I : II} {T : TT} {Q : QQ} {x1 : Int32} {x4 : Int32} (hq : t_X_loosest_31 E I T Q x1 x4) : ev E 284 31 [some (.ref 0), some (.int x1), none, none, some (.int x4)] [] I T Q := by
  unfold t_X_loosest_31 at hq
  refine ev_seq 5 (ip' := 36) (loc' := [some (.ref 0), some (.int x1), some (.int x4), none, some (.int x4)]) (st' := [(.int x4), (.ref 28)]) (I1 := I) (T1 := T) rfl ?_
  refine ev_callI rfl rfl rfl (fun v1 I1 T1 hq => ?_) (fun x I1 T1 hq => ?_) hq
  · refine ev_seq 1 (ip' := 38) (loc' := [some (.ref 0), some (.int x1), some (.int x4), some (.int v1), some (.int x4)]) (st' := []) (I1 := I1) (T1 := T1) rfl ?_
    exact s_X_loosest_38 (T := T1) hq
  · exact ⟨by decide, hq⟩
def t_X_loosest_12 (E : MEnv) (I : II) (T : TT) (Q : QQ) (x1 : Int32) (x2 : Int32) (x3 : Int32) (x4 : Int32) : Prop := ((I 3 5) ≤ x4 → ((x1 = 0 → (t_X_loosest_45 E I T Q x2)) ∧ (¬ (x1 = 0) → (t_X_loosest_45 E I T Q x3)))) ∧ (¬ ((I 3 5) ≤ x4) → (ev E 108 0 [some (.ref 28), some (.int x4)] [] I T (KI (fun v1 I1 T1 => (v1 = 0 → (t_X_loosest_38 E I1 T1 Q x1 x2 x3 x4)) ∧ (¬ (v1 = 0) → ((x2 = (-1) → (t_X_loosest_31 E I1 T1 Q x1 x4)) ∧ (¬ (x2 = (-1)) → (ev E 113 0 [some (.ref 28), some (.int x4)] [] I1 T1 (KI (fun v2 I2 T2 => (x3 ≤ v2 → (t_X_loosest_38 E I2 T2 Q x1 x2 x3 x4)) ∧ (¬ (x3 ≤ v2) → (t_X_loosest_31 E I2 T2 Q x1 x4))) (fun x I1 T1 => Q (.inr x) I1 T1))))))) (fun x I1 T1 => Q (.inr x) I1 T1))))
theorem s_X_loosest_12 {E : MEnv} {I : II} {T : TT} {Q : QQ} {x1 : Int32} {x2 : Int32} {x3 : Int32} {x4 : Int32} (hq : t_X_loosest_12 E I T Q x1 x2 x3 x4) : ev E 284 12 [some (.ref 0), some (.int x1), some (.int x2), some (.int x3), some (.int x4)] [] I T Q := by
  unfold t_X_loosest_12 at hq
  refine ev_seq 4 (ip' := 16) (loc' := [some (.ref 0), some (.int x1), some (.int x2), some (.int x3), some (.int x4)]) (st' := [(.int (I 3 5)), (.int x4)]) (I1 := I) (T1 := T) rfl ?_
  refine ev_br (p := (I 3 5) ≤ x4) (a := 40) (b := 17) (st' := []) inferInstance rfl rfl (fun hb => ?_) (fun hb => ?_)
  · have hq := hq.1 hb
    refine ev_seq 1 (ip' := 41) (loc' := [some (.ref 0), some (.int x1), some (.int x2), some (.int x3), some (.int x4)]) (st' := [(.int x1)]) (I1 := I) (T1 := T) rfl ?_
    refine ev_br (p := x1 = 0) (a := 42) (b := 44) (st' := []) inferInstance rfl rfl (fun hb => ?_) (fun hb => ?_)
    · have hq := hq.1 hb
      refine ev_seq 2 (ip' := 45) (loc' := [some (.ref 0), some (.int x1), some (.int x2), some (.int x3), some (.int x4)]) (st' := [(.int x2)]) (I1 := I) (T1 := T) rfl ?_
      refine ev_fg [false, false, false, false, false] (loc' := [none, none, none, none, none]) rfl ?_
      exact s_X_loosest_45 (T := T) hq
    · have hq := hq.2 hb
      refine ev_seq 1 (ip' := 45) (loc' := [some (.ref 0), some (.int x1), some (.int x2), some (.int x3), some (.int x4)]) (st' := [(.int x3)]) (I1 := I) (T1 := T) rfl ?_
      refine ev_fg [false, false, false, false, false] (loc' := [none, none, none, none, none]) rfl ?_
      exact s_X_loosest_45 (T := T) hq
  · have hq := hq.2 hb
    refine ev_seq 3 (ip' := 20) (loc' := [some (.ref 0), some (.int x1), some (.int x2), some (.int x3), some (.int x4)]) (st' := [(.int x4), (.ref 28)]) (I1 := I) (T1 := T) rfl ?_
    refine ev_callI rfl rfl rfl (fun v1 I1 T1 hq => ?_) (fun x I1 T1 hq => ?_) hq
    · refine ev_br (p := v1 = 0) (a := 38) (b := 22) (st' := []) inferInstance rfl rfl (fun hb => ?_) (fun hb => ?_)
      · have hq := hq.1 hb
        exact s_X_loosest_38 (T := T1) hq
      · have hq := hq.2 hb
        refine ev_seq 2 (ip' := 24) (loc' := [some (.ref 0), some (.int x1), some (.int x2), some (.int x3), some (.int x4)]) (st' := [(.int (-1)), (.int x2)]) (I1 := I1) (T1 := T1) rfl ?_
        refine ev_br (p := x2 = (-1)) (a := 31) (b := 25) (st' := []) inferInstance rfl rfl (fun hb => ?_) (fun hb => ?_)
        · have hq := hq.1 hb
          refine ev_fg [true, true, false, false, true] (loc' := [some (.ref 0), some (.int x1), none, none, some (.int x4)]) rfl ?_
          exact s_X_loosest_31 (T := T1) hq
        · have hq := hq.2 hb
          refine ev_seq 3 (ip' := 28) (loc' := [some (.ref 0), some (.int x1), some (.int x2), some (.int x3), some (.int x4)]) (st' := [(.int x4), (.ref 28)]) (I1 := I1) (T1 := T1) rfl ?_
          refine ev_callI rfl rfl rfl (fun v2 I2 T2 hq => ?_) (fun x I1 T1 hq => ?_) hq
          · refine ev_seq 1 (ip' := 30) (loc' := [some (.ref 0), some (.int x1), some (.int x2), some (.int x3), some (.int x4)]) (st' := [(.int x3), (.int v2)]) (I1 := I2) (T1 := T2) rfl ?_
            refine ev_br (p := x3 ≤ v2) (a := 38) (b := 31) (st' := []) inferInstance rfl rfl (fun hb => ?_) (fun hb => ?_)
            · have hq := hq.1 hb
              exact s_X_loosest_38 (T := T2) hq
            · have hq := hq.2 hb
              refine ev_fg [true, true, false, false, true] (loc' := [some (.ref 0), some (.int x1), none, none, some (.int x4)]) rfl ?_
              exact s_X_loosest_31 (T := T2) hq
          · exact ⟨by decide, hq⟩
    · exact ⟨by decide, hq⟩
def t_X_loosest_0 (E : MEnv) (I : II) (T : TT) (Q : QQ) (x1 : Int32) : Prop := ev E 27 0 [some (.int x1), some (.int 0), some (.int 1)] [] I T (KI (fun v1 I1 T1 => ev E 28 0 [some (.ref 0), some (.int v1)] [] I1 T1 (KV (fun I2 T2 => t_X_loosest_12 E I2 T2 Q x1 (-1) (-1) 0) (fun x I1 T1 => Q (.inr x) I1 T1))) (fun _ _ _ => False))
theorem s_X_loosest_0 {E : MEnv} {I : II} {T : TT} {Q : QQ} {x1 : Int32} (hq : t_X_loosest_0 E I T Q x1) : ev E 284 0 [some (.ref 0), some (.int x1), none, none, none] [] I T Q := by
  unfold t_X_loosest_0 at hq
  refine ev_seq 4 (ip' := 4) (loc' := [some (.ref 0), some (.int x1), none, none, none]) (st' := [(.int 1), (.int 0), (.int x1), (.ref 0)]) (I1 := I) (T1 := T) rfl ?_
  refine ev_callI rfl rfl rfl (fun v1 I1 T1 hq => ?_) (fun x I1 T1 hq => ?_) hq
  · refine ev_callV rfl rfl rfl (fun I2 T2 hq => ?_) (fun x I1 T1 hq => ?_) hq
    · refine ev_seq 6 (ip' := 12) (loc' := [some (.ref 0), some (.int x1), some (.int (-1)), some (.int (-1)), some (.int 0)]) (st' := []) (I1 := I2) (T1 := T2) rfl ?_
      exact s_X_loosest_12 (T := T2) hq
    · exact ⟨by decide, hq⟩
  · exact hq.elim
/-- FeltHarness.lost()I -/
def t_X_lost_0 (E : MEnv) (I : II) (T : TT) (Q : QQ) : Prop := ev E 212 0 [some (.ref 30), some (.ref 28)] [] I T (KV (fun I1 T1 => ev E 140 0 [some (.ref 30), none] [] I1 T1 (KV (fun I2 T2 => ev E 112 0 [some (.ref 28), none, none] [] I2 T2 (KI (fun v3 I3 T3 => ev E 112 0 [some (.ref 30), none, none] [] I3 T3 (KI (fun v4 I4 T4 => Q (.inl (some (.int (v3 &&& (v4 ^^^ (-1)))))) I4 T4) (fun x I1 T1 => Q (.inr x) I1 T1))) (fun x I1 T1 => Q (.inr x) I1 T1))) (fun x I1 T1 => Q (.inr x) I1 T1))) (fun x I1 T1 => Q (.inr x) I1 T1))
theorem s_X_lost_0 {E : MEnv} {I : II} {T : TT} {Q : QQ} (hq : t_X_lost_0 E I T Q) : ev E 294 0 [some (.ref 0)] [] I T Q := by
  unfold t_X_lost_0 at hq
  refine ev_seq 4 (ip' := 4) (loc' := [some (.ref 0)]) (st' := [(.ref 28), (.ref 30)]) (I1 := I) (T1 := T) rfl ?_
  refine ev_callV rfl rfl rfl (fun I1 T1 hq => ?_) (fun x I1 T1 hq => ?_) hq
  · refine ev_seq 2 (ip' := 7) (loc' := [some (.ref 0)]) (st' := [(.ref 30)]) (I1 := I1) (T1 := T1) rfl ?_
    refine ev_callV rfl rfl rfl (fun I2 T2 hq => ?_) (fun x I1 T1 hq => ?_) hq
    · refine ev_seq 2 (ip' := 10) (loc' := [some (.ref 0)]) (st' := [(.ref 28)]) (I1 := I2) (T1 := T2) rfl ?_
      refine ev_callI rfl rfl rfl (fun v3 I3 T3 hq => ?_) (fun x I1 T1 hq => ?_) hq
      · refine ev_seq 2 (ip' := 13) (loc' := [some (.ref 0)]) (st' := [(.ref 30), (.int v3)]) (I1 := I3) (T1 := T3) rfl ?_
        refine ev_callI rfl rfl rfl (fun v4 I4 T4 hq => ?_) (fun x I1 T1 hq => ?_) hq
        · refine ev_seq 3 (ip' := 17) (loc' := [some (.ref 0)]) (st' := [(.int (v3 &&& (v4 ^^^ (-1))))]) (I1 := I4) (T1 := T4) rfl ?_
          exact ev_ret rfl rfl hq
        · exact ⟨by decide, hq⟩
      · exact ⟨by decide, hq⟩
    · exact ⟨by decide, hq⟩
  · exact ⟨by decide, hq⟩
/-- FeltHarness.need(Z)V -/
def t_X_need_0 (E : MEnv) (I : II) (T : TT) (Q : QQ) (x1 : Int32) : Prop := (x1 = 0 → ((537 ≤ T.2.1 ∧ T.2.1 < 1000000) ∧ Q (.inr 1) (m_up I 0 15 ((I 0 15) + 1)) (T.1, T.2.1 + 1, T.2.2 + 6))) ∧ (¬ (x1 = 0) → (Q (.inl none) I T))
theorem s_X_need_0 {E : MEnv} {I : II} {T : TT} {Q : QQ} {x1 : Int32} (hq : t_X_need_0 E I T Q x1) : ev E 28 0 [some (.ref 0), some (.int x1)] [] I T Q := by
  unfold t_X_need_0 at hq
  refine ev_seq 1 (ip' := 1) (loc' := [some (.ref 0), some (.int x1)]) (st' := [(.int x1)]) (I1 := I) (T1 := T) rfl ?_
  refine ev_br (p := x1 = 0) (a := 2) (b := 13) (st' := []) inferInstance rfl rfl (fun hb => ?_) (fun hb => ?_)
  · have hq := hq.1 hb
    refine ev_seq 6 (ip' := 8) (loc' := [some (.ref 0), some (.int x1)]) (st' := []) (I1 := m_up I 0 15 ((I 0 15) + 1)) (T1 := T) rfl ?_
    exact ev_thr rfl hq.1 (by decide) hq.2
  · have hq := hq.2 hb
    exact ev_ret rfl rfl hq
/-- FeltHarness.needFeeling(I)V -/
def t_X_needFeeling_0 (E : MEnv) (I : II) (T : TT) (Q : QQ) (x1 : Int32) : Prop := ev E 27 0 [some (.int x1), some (.int 0), some (.int ((I 3 5) - 1))] [] I T (KI (fun v1 I1 T1 => (v1 = 0 → ((537 ≤ T1.2.1 ∧ T1.2.1 < 1000000) ∧ Q (.inr 0) (m_up I1 0 14 ((I1 0 14) + 1)) (T1.1, T1.2.1 + 1, T1.2.2 + 6))) ∧ (¬ (v1 = 0) → (Q (.inl none) I1 T1))) (fun _ _ _ => False))
theorem s_X_needFeeling_0 {E : MEnv} {I : II} {T : TT} {Q : QQ} {x1 : Int32} (hq : t_X_needFeeling_0 E I T Q x1) : ev E 188 0 [some (.ref 0), some (.int x1)] [] I T Q := by
  unfold t_X_needFeeling_0 at hq
  refine ev_seq 7 (ip' := 7) (loc' := [some (.ref 0), some (.int x1)]) (st' := [(.int ((I 3 5) - 1)), (.int 0), (.int x1)]) (I1 := I) (T1 := T) rfl ?_
  refine ev_callI rfl rfl rfl (fun v1 I1 T1 hq => ?_) (fun x I1 T1 hq => ?_) hq
  · refine ev_br (p := v1 = 0) (a := 9) (b := 20) (st' := []) inferInstance rfl rfl (fun hb => ?_) (fun hb => ?_)
    · have hq := hq.1 hb
      refine ev_seq 6 (ip' := 15) (loc' := [some (.ref 0), some (.int x1)]) (st' := []) (I1 := m_up I1 0 14 ((I1 0 14) + 1)) (T1 := T1) rfl ?_
      exact ev_thr rfl hq.1 (by decide) hq.2
    · have hq := hq.2 hb
      exact ev_ret rfl rfl hq
  · exact hq.elim
/-- FeltHarness.needStage(I)V -/
def t_X_needStage_0 (E : MEnv) (I : II) (T : TT) (Q : QQ) (x1 : Int32) : Prop := ev E 27 0 [some (.int x1), some (.int 0), some (.int ((I 3 6) - 1))] [] I T (KI (fun v1 I1 T1 => (v1 = 0 → ((537 ≤ T1.2.1 ∧ T1.2.1 < 1000000) ∧ Q (.inr 0) (m_up I1 0 14 ((I1 0 14) + 1)) (T1.1, T1.2.1 + 1, T1.2.2 + 6))) ∧ (¬ (v1 = 0) → (Q (.inl none) I1 T1))) (fun _ _ _ => False))
theorem s_X_needStage_0 {E : MEnv} {I : II} {T : TT} {Q : QQ} {x1 : Int32} (hq : t_X_needStage_0 E I T Q x1) : ev E 193 0 [some (.ref 0), some (.int x1)] [] I T Q := by
  unfold t_X_needStage_0 at hq
  refine ev_seq 7 (ip' := 7) (loc' := [some (.ref 0), some (.int x1)]) (st' := [(.int ((I 3 6) - 1)), (.int 0), (.int x1)]) (I1 := I) (T1 := T) rfl ?_
  refine ev_callI rfl rfl rfl (fun v1 I1 T1 hq => ?_) (fun x I1 T1 hq => ?_) hq
  · refine ev_br (p := v1 = 0) (a := 9) (b := 20) (st' := []) inferInstance rfl rfl (fun hb => ?_) (fun hb => ?_)
    · have hq := hq.1 hb
      refine ev_seq 6 (ip' := 15) (loc' := [some (.ref 0), some (.int x1)]) (st' := []) (I1 := m_up I1 0 14 ((I1 0 14) + 1)) (T1 := T1) rfl ?_
      exact ev_thr rfl hq.1 (by decide) hq.2
    · have hq := hq.2 hb
      exact ev_ret rfl rfl hq
  · exact hq.elim
/-- FeltHarness.needText(II)V -/
def t_X_needText_0 (E : MEnv) (I : II) (T : TT) (Q : QQ) (x1 : Int32) (x2 : Int32) : Prop := ev E 27 0 [some (.int x1), some (.int 0), some (.int (if x2 < (I 1 1) then x2 else (I 1 1)))] [] I T (KI (fun v1 I1 T1 => ev E 28 0 [some (.ref 0), some (.int v1)] [] I1 T1 (KV (fun I2 T2 => Q (.inl none) I2 T2) (fun x I1 T1 => Q (.inr x) I1 T1))) (fun _ _ _ => False))
theorem s_X_needText_0 {E : MEnv} {I : II} {T : TT} {Q : QQ} {x1 : Int32} {x2 : Int32} (hq : t_X_needText_0 E I T Q x1 x2) : ev E 26 0 [some (.ref 0), some (.int x1), some (.int x2)] [] I T Q := by
  unfold t_X_needText_0 at hq
  refine ev_seq 8 (ip' := 8) (loc' := [some (.ref 0), some (.int x1), some (.int x2)]) (st' := [(.int (if x2 < (I 1 1) then x2 else (I 1 1))), (.int 0), (.int x1), (.ref 0)]) (I1 := I) (T1 := T) rfl ?_
  refine ev_callI rfl rfl rfl (fun v1 I1 T1 hq => ?_) (fun x I1 T1 hq => ?_) hq
  · refine ev_callV rfl rfl rfl (fun I2 T2 hq => ?_) (fun x I1 T1 hq => ?_) hq
    · exact ev_ret rfl rfl hq
    · exact ⟨by decide, hq⟩
  · exact hq.elim
/-- FeltHarness.needs(I)I -/
def t_X_needs_0 (E : MEnv) (I : II) (T : TT) (Q : QQ) (x1 : Int32) : Prop := ev E 193 0 [some (.ref 0), some (.int x1)] [] I T (KV (fun I1 T1 => ev E 134 0 [some (.ref 3), some (.int x1)] [] I1 T1 (KI (fun v2 I2 T2 => ev E 182 0 [some (.ref 28)] [] I2 T2 (KI (fun v3 I3 T3 => Q (.inl (some (.int (if 0 < (v2 - v3) then (v2 - v3) else 0)))) I3 T3) (fun x I1 T1 => Q (.inr x) I1 T1))) (fun x I1 T1 => Q (.inr x) I1 T1))) (fun x I1 T1 => Q (.inr x) I1 T1))
theorem s_X_needs_0 {E : MEnv} {I : II} {T : TT} {Q : QQ} {x1 : Int32} (hq : t_X_needs_0 E I T Q x1) : ev E 303 0 [some (.ref 0), some (.int x1)] [] I T Q := by
  unfold t_X_needs_0 at hq
  refine ev_seq 2 (ip' := 2) (loc' := [some (.ref 0), some (.int x1)]) (st' := [(.int x1), (.ref 0)]) (I1 := I) (T1 := T) rfl ?_
  refine ev_callV rfl rfl rfl (fun I1 T1 hq => ?_) (fun x I1 T1 hq => ?_) hq
  · refine ev_seq 4 (ip' := 7) (loc' := [some (.ref 0), some (.int x1)]) (st' := [(.int x1), (.ref 3), (.int 0)]) (I1 := I1) (T1 := T1) rfl ?_
    refine ev_callI rfl rfl rfl (fun v2 I2 T2 hq => ?_) (fun x I1 T1 hq => ?_) hq
    · refine ev_seq 2 (ip' := 10) (loc' := [some (.ref 0), some (.int x1)]) (st' := [(.ref 28), (.int v2), (.int 0)]) (I1 := I2) (T1 := T2) rfl ?_
      refine ev_callI rfl rfl rfl (fun v3 I3 T3 hq => ?_) (fun x I1 T1 hq => ?_) hq
      · refine ev_seq 2 (ip' := 13) (loc' := [some (.ref 0), some (.int x1)]) (st' := [(.int (if 0 < (v2 - v3) then (v2 - v3) else 0))]) (I1 := I3) (T1 := T3) rfl ?_
        exact ev_ret rfl rfl hq
      · exact ⟨by decide, hq⟩
    · exact ⟨by decide, hq⟩
  · exact ⟨by decide, hq⟩
/-- FeltHarness.oats(III)I -/
def t_X_oats_45 (E : MEnv) (I : II) (T : TT) (Q : QQ) (x4 : Int32) : Prop := Q (.inl (some (.int x4))) I T
theorem s_X_oats_45 {E : MEnv} {I : II} {T : TT} {Q : QQ} {x4 : Int32} (hq : t_X_oats_45 E I T Q x4) : ev E 276 45 [none, none, none, none, some (.int x4)] [] I T Q := by
  unfold t_X_oats_45 at hq
  refine ev_seq 1 (ip' := 46) (loc' := [none, none, none, none, some (.int x4)]) (st' := [(.int x4)]) (I1 := I) (T1 := T) rfl ?_
  exact ev_ret rfl rfl hq
def t_X_oats_29 (E : MEnv) (I : II) (T : TT) (Q : QQ) (x1 : Int32) (x2 : Int32) (x3 : Int32) (x4 : Int32) : Prop := ev E 127 0 [some (.ref 28), some (.int x1)] [] I T (KI (fun v1 I1 T1 => (v1 ≤ x4 → (t_X_oats_45 E I1 T1 Q x4)) ∧ (¬ (v1 ≤ x4) → (ev E 277 0 [some (.ref 0), some (.int x2), some (.int (x4 + 1)), none, none] [] I1 T1 (KI (fun v2 I2 T2 => (x3 < v2 → (t_X_oats_45 E I2 T2 Q x4)) ∧ (¬ (x3 < v2) → (ev E 276 29 [some (.ref 0), some (.int x1), some (.int x2), some (.int x3), some (.int (x4 + 1))] [] I2 T2 Q))) (fun x I1 T1 => Q (.inr x) I1 T1))))) (fun x I1 T1 => Q (.inr x) I1 T1))
theorem s_X_oats_29 {E : MEnv} {I : II} {T : TT} {Q : QQ} {x1 : Int32} {x2 : Int32} {x3 : Int32} {x4 : Int32} (hq : t_X_oats_29 E I T Q x1 x2 x3 x4) : ev E 276 29 [some (.ref 0), some (.int x1), some (.int x2), some (.int x3), some (.int x4)] [] I T Q := by
  unfold t_X_oats_29 at hq
  refine ev_seq 4 (ip' := 33) (loc' := [some (.ref 0), some (.int x1), some (.int x2), some (.int x3), some (.int x4)]) (st' := [(.int x1), (.ref 28), (.int x4)]) (I1 := I) (T1 := T) rfl ?_
  refine ev_callI rfl rfl rfl (fun v1 I1 T1 hq => ?_) (fun x I1 T1 hq => ?_) hq
  · refine ev_br (p := v1 ≤ x4) (a := 45) (b := 35) (st' := []) inferInstance rfl rfl (fun hb => ?_) (fun hb => ?_)
    · have hq := hq.1 hb
      refine ev_fg [false, false, false, false, true] (loc' := [none, none, none, none, some (.int x4)]) rfl ?_
      exact s_X_oats_45 (T := T1) hq
    · have hq := hq.2 hb
      refine ev_seq 5 (ip' := 40) (loc' := [some (.ref 0), some (.int x1), some (.int x2), some (.int x3), some (.int x4)]) (st' := [(.int (x4 + 1)), (.int x2), (.ref 0)]) (I1 := I1) (T1 := T1) rfl ?_
      refine ev_callI rfl rfl rfl (fun v2 I2 T2 hq => ?_) (fun x I1 T1 hq => ?_) hq
      · refine ev_seq 1 (ip' := 42) (loc' := [some (.ref 0), some (.int x1), some (.int x2), some (.int x3), some (.int x4)]) (st' := [(.int x3), (.int v2)]) (I1 := I2) (T1 := T2) rfl ?_
        refine ev_br (p := x3 < v2) (a := 45) (b := 43) (st' := []) inferInstance rfl rfl (fun hb => ?_) (fun hb => ?_)
        · have hq := hq.1 hb
          refine ev_fg [false, false, false, false, true] (loc' := [none, none, none, none, some (.int x4)]) rfl ?_
          exact s_X_oats_45 (T := T2) hq
        · have hq := hq.2 hb
          refine ev_seq 2 (ip' := 29) (loc' := [some (.ref 0), some (.int x1), some (.int x2), some (.int x3), some (.int (x4 + 1))]) (st' := []) (I1 := I2) (T1 := T2) rfl ?_
          exact hq
      · exact ⟨by decide, hq⟩
  · exact ⟨by decide, hq⟩
def t_X_oats_18 (E : MEnv) (I : II) (T : TT) (Q : QQ) (x1 : Int32) (x2 : Int32) (x3 : Int32) (y1 : Int32) : Prop := ev E 28 0 [some (.ref 0), some (.int y1)] [] I T (KV (fun I1 T1 => (((x2 >>> (x1 &&& 31)) &&& 1) = 0 → (Q (.inl (some (.int 0))) I1 T1)) ∧ (¬ (((x2 >>> (x1 &&& 31)) &&& 1) = 0) → (t_X_oats_29 E I1 T1 Q x1 x2 x3 0))) (fun x I1 T1 => Q (.inr x) I1 T1))
theorem s_X_oats_18 {E : MEnv} {I : II} {T : TT} {Q : QQ} {x1 : Int32} {x2 : Int32} {x3 : Int32} {y1 : Int32} (hq : t_X_oats_18 E I T Q x1 x2 x3 y1) : ev E 276 18 [some (.ref 0), some (.int x1), some (.int x2), some (.int x3), none] [(.int y1), (.ref 0)] I T Q := by
  unfold t_X_oats_18 at hq
  refine ev_callV rfl rfl rfl (fun I1 T1 hq => ?_) (fun x I1 T1 hq => ?_) hq
  · refine ev_seq 5 (ip' := 24) (loc' := [some (.ref 0), some (.int x1), some (.int x2), some (.int x3), none]) (st' := [(.int ((x2 >>> (x1 &&& 31)) &&& 1))]) (I1 := I1) (T1 := T1) rfl ?_
    refine ev_br (p := ((x2 >>> (x1 &&& 31)) &&& 1) = 0) (a := 25) (b := 27) (st' := []) inferInstance rfl rfl (fun hb => ?_) (fun hb => ?_)
    · have hq := hq.1 hb
      refine ev_seq 1 (ip' := 26) (loc' := [some (.ref 0), some (.int x1), some (.int x2), some (.int x3), none]) (st' := [(.int 0)]) (I1 := I1) (T1 := T1) rfl ?_
      exact ev_ret rfl rfl hq
    · have hq := hq.2 hb
      refine ev_seq 2 (ip' := 29) (loc' := [some (.ref 0), some (.int x1), some (.int x2), some (.int x3), some (.int 0)]) (st' := []) (I1 := I1) (T1 := T1) rfl ?_
      exact s_X_oats_29 (T := T1) hq
  · exact ⟨by decide, hq⟩
def t_X_oats_17 (E : MEnv) (I : II) (T : TT) (Q : QQ) (x1 : Int32) (x2 : Int32) (x3 : Int32) : Prop := t_X_oats_18 E I T Q x1 x2 x3 0
theorem s_X_oats_17 {E : MEnv} {I : II} {T : TT} {Q : QQ} {x1 : Int32} {x2 : Int32} {x3 : Int32} (hq : t_X_oats_17 E I T Q x1 x2 x3) : ev E 276 17 [some (.ref 0), some (.int x1), some (.int x2), some (.int x3), none] [(.ref 0)] I T Q := by
  unfold t_X_oats_17 at hq
  refine ev_seq 1 (ip' := 18) (loc' := [some (.ref 0), some (.int x1), some (.int x2), some (.int x3), none]) (st' := [(.int 0), (.ref 0)]) (I1 := I) (T1 := T) rfl ?_
  exact s_X_oats_18 (T := T) hq
def t_X_oats_0 (E : MEnv) (I : II) (T : TT) (Q : QQ) (x1 : Int32) (x2 : Int32) (x3 : Int32) : Prop := ev E 188 0 [some (.ref 0), some (.int x1)] [] I T (KV (fun I1 T1 => ((x2 >>> ((I1 3 5) &&& 31)) = 0 → (ev E 27 0 [some (.int x3), some (.int 0), some (.int 9999)] [] I1 T1 (KI (fun v2 I2 T2 => (v2 = 0 → (t_X_oats_17 E I2 T2 Q x1 x2 x3)) ∧ (¬ (v2 = 0) → (t_X_oats_18 E I2 T2 Q x1 x2 x3 1))) (fun _ _ _ => False)))) ∧ (¬ ((x2 >>> ((I1 3 5) &&& 31)) = 0) → (t_X_oats_17 E I1 T1 Q x1 x2 x3))) (fun x I1 T1 => Q (.inr x) I1 T1))
theorem s_X_oats_0 {E : MEnv} {I : II} {T : TT} {Q : QQ} {x1 : Int32} {x2 : Int32} {x3 : Int32} (hq : t_X_oats_0 E I T Q x1 x2 x3) : ev E 276 0 [some (.ref 0), some (.int x1), some (.int x2), some (.int x3), none] [] I T Q := by
  unfold t_X_oats_0 at hq
  refine ev_seq 2 (ip' := 2) (loc' := [some (.ref 0), some (.int x1), some (.int x2), some (.int x3), none]) (st' := [(.int x1), (.ref 0)]) (I1 := I) (T1 := T) rfl ?_
  refine ev_callV rfl rfl rfl (fun I1 T1 hq => ?_) (fun x I1 T1 hq => ?_) hq
  · refine ev_seq 6 (ip' := 9) (loc' := [some (.ref 0), some (.int x1), some (.int x2), some (.int x3), none]) (st' := [(.int (x2 >>> ((I1 3 5) &&& 31))), (.ref 0)]) (I1 := I1) (T1 := T1) rfl ?_
    refine ev_br (p := (x2 >>> ((I1 3 5) &&& 31)) = 0) (a := 10) (b := 17) (st' := [(.ref 0)]) inferInstance rfl rfl (fun hb => ?_) (fun hb => ?_)
    · have hq := hq.1 hb
      refine ev_seq 3 (ip' := 13) (loc' := [some (.ref 0), some (.int x1), some (.int x2), some (.int x3), none]) (st' := [(.int 9999), (.int 0), (.int x3), (.ref 0)]) (I1 := I1) (T1 := T1) rfl ?_
      refine ev_callI rfl rfl rfl (fun v2 I2 T2 hq => ?_) (fun x I1 T1 hq => ?_) hq
      · refine ev_br (p := v2 = 0) (a := 17) (b := 15) (st' := [(.ref 0)]) inferInstance rfl rfl (fun hb => ?_) (fun hb => ?_)
        · have hq := hq.1 hb
          exact s_X_oats_17 (T := T2) hq
        · have hq := hq.2 hb
          refine ev_seq 2 (ip' := 18) (loc' := [some (.ref 0), some (.int x1), some (.int x2), some (.int x3), none]) (st' := [(.int 1), (.ref 0)]) (I1 := I2) (T1 := T2) rfl ?_
          exact s_X_oats_18 (T := T2) hq
      · exact hq.elim
    · have hq := hq.2 hb
      exact s_X_oats_17 (T := T1) hq
  · exact ⟨by decide, hq⟩
/-- FeltHarness.oatsWithin(II)I -/
def t_X_oatsWithin_25 (E : MEnv) (I : II) (T : TT) (Q : QQ) (x1 : Int32) (x2 : Int32) (x3 : Int32) (x4 : Int32) : Prop := ev E 277 4 [some (.ref 0), some (.int x1), some (.int x2), some (.int x3), some (.int (x4 + 1))] [] I T Q
theorem s_X_oatsWithin_25 {E : MEnv} {I : II} {T : TT} {Q : QQ} {x1 : Int32} {x2 : Int32} {x3 : Int32} {x4 : Int32} (hq : t_X_oatsWithin_25 E I T Q x1 x2 x3 x4) : ev E 277 25 [some (.ref 0), some (.int x1), some (.int x2), some (.int x3), some (.int x4)] [] I T Q := by
  unfold t_X_oatsWithin_25 at hq
  refine ev_seq 2 (ip' := 4) (loc' := [some (.ref 0), some (.int x1), some (.int x2), some (.int x3), some (.int (x4 + 1))]) (st' := []) (I1 := I) (T1 := T) rfl ?_
  exact hq
def t_X_oatsWithin_4 (E : MEnv) (I : II) (T : TT) (Q : QQ) (x1 : Int32) (x2 : Int32) (x3 : Int32) (x4 : Int32) : Prop := ((I 3 5) ≤ x4 → (Q (.inl (some (.int x3))) I T)) ∧ (¬ ((I 3 5) ≤ x4) → ((((x1 >>> (x4 &&& 31)) &&& 1) = 1 → (ev E 127 0 [some (.ref 28), some (.int x4)] [] I T (KI (fun v1 I1 T1 => t_X_oatsWithin_25 E I1 T1 Q x1 x2 (x3 + (if x2 < v1 then x2 else v1)) x4) (fun x I1 T1 => Q (.inr x) I1 T1)))) ∧ (¬ (((x1 >>> (x4 &&& 31)) &&& 1) = 1) → (t_X_oatsWithin_25 E I T Q x1 x2 x3 x4))))
theorem s_X_oatsWithin_4 {E : MEnv} {I : II} {T : TT} {Q : QQ} {x1 : Int32} {x2 : Int32} {x3 : Int32} {x4 : Int32} (hq : t_X_oatsWithin_4 E I T Q x1 x2 x3 x4) : ev E 277 4 [some (.ref 0), some (.int x1), some (.int x2), some (.int x3), some (.int x4)] [] I T Q := by
  unfold t_X_oatsWithin_4 at hq
  refine ev_seq 4 (ip' := 8) (loc' := [some (.ref 0), some (.int x1), some (.int x2), some (.int x3), some (.int x4)]) (st' := [(.int (I 3 5)), (.int x4)]) (I1 := I) (T1 := T) rfl ?_
  refine ev_br (p := (I 3 5) ≤ x4) (a := 27) (b := 9) (st' := []) inferInstance rfl rfl (fun hb => ?_) (fun hb => ?_)
  · have hq := hq.1 hb
    refine ev_seq 1 (ip' := 28) (loc' := [some (.ref 0), some (.int x1), some (.int x2), some (.int x3), some (.int x4)]) (st' := [(.int x3)]) (I1 := I) (T1 := T) rfl ?_
    exact ev_ret rfl rfl hq
  · have hq := hq.2 hb
    refine ev_seq 6 (ip' := 15) (loc' := [some (.ref 0), some (.int x1), some (.int x2), some (.int x3), some (.int x4)]) (st' := [(.int 1), (.int ((x1 >>> (x4 &&& 31)) &&& 1))]) (I1 := I) (T1 := T) rfl ?_
    refine ev_br (p := ((x1 >>> (x4 &&& 31)) &&& 1) = 1) (a := 16) (b := 25) (st' := []) inferInstance rfl rfl (fun hb => ?_) (fun hb => ?_)
    · have hq := hq.1 hb
      refine ev_seq 4 (ip' := 20) (loc' := [some (.ref 0), some (.int x1), some (.int x2), some (.int x3), some (.int x4)]) (st' := [(.int x4), (.ref 28), (.int x3)]) (I1 := I) (T1 := T) rfl ?_
      refine ev_callI rfl rfl rfl (fun v1 I1 T1 hq => ?_) (fun x I1 T1 hq => ?_) hq
      · refine ev_seq 4 (ip' := 25) (loc' := [some (.ref 0), some (.int x1), some (.int x2), some (.int (x3 + (if x2 < v1 then x2 else v1))), some (.int x4)]) (st' := []) (I1 := I1) (T1 := T1) rfl ?_
        exact s_X_oatsWithin_25 (T := T1) hq
      · exact ⟨by decide, hq⟩
    · have hq := hq.2 hb
      exact s_X_oatsWithin_25 (T := T) hq
def t_X_oatsWithin_0 (E : MEnv) (I : II) (T : TT) (Q : QQ) (x1 : Int32) (x2 : Int32) : Prop := t_X_oatsWithin_4 E I T Q x1 x2 0 0
theorem s_X_oatsWithin_0 {E : MEnv} {I : II} {T : TT} {Q : QQ} {x1 : Int32} {x2 : Int32} (hq : t_X_oatsWithin_0 E I T Q x1 x2) : ev E 277 0 [some (.ref 0), some (.int x1), some (.int x2), none, none] [] I T Q := by
  unfold t_X_oatsWithin_0 at hq
  refine ev_seq 4 (ip' := 4) (loc' := [some (.ref 0), some (.int x1), some (.int x2), some (.int 0), some (.int 0)]) (st' := []) (I1 := I) (T1 := T) rfl ?_
  exact s_X_oatsWithin_4 (T := T) hq
/-- FeltHarness.open()I -/
def t_X_open_25 (E : MEnv) (I : II) (T : TT) (Q : QQ) (x1 : Int32) (x2 : Int32) : Prop := ev E 292 4 [some (.ref 0), some (.int x1), some (.int (x2 + 1))] [] I T Q
theorem s_X_open_25 {E : MEnv} {I : II} {T : TT} {Q : QQ} {x1 : Int32} {x2 : Int32} (hq : t_X_open_25 E I T Q x1 x2) : ev E 292 25 [some (.ref 0), some (.int x1), some (.int x2)] [] I T Q := by
  unfold t_X_open_25 at hq
  refine ev_seq 2 (ip' := 4) (loc' := [some (.ref 0), some (.int x1), some (.int (x2 + 1))]) (st' := []) (I1 := I) (T1 := T) rfl ?_
  exact hq
def t_X_open_4 (E : MEnv) (I : II) (T : TT) (Q : QQ) (x1 : Int32) (x2 : Int32) : Prop := ((I 3 6) ≤ x2 → (Q (.inl (some (.int x1))) I T)) ∧ (¬ ((I 3 6) ≤ x2) → (ev E 122 0 [some (.ref 28)] [] I T (KI (fun v1 I1 T1 => (v1 ≤ 0 → (t_X_open_25 E I1 T1 Q x1 x2)) ∧ (¬ (v1 ≤ 0) → (ev E 209 0 [some (.ref 28), some (.int x2)] [] I1 T1 (KI (fun v2 I2 T2 => (v2 = 2 → (t_X_open_25 E I2 T2 Q (x1 ||| ((1 : Int32) <<< (x2 &&& 31))) x2)) ∧ (¬ (v2 = 2) → (t_X_open_25 E I2 T2 Q x1 x2))) (fun x I1 T1 => Q (.inr x) I1 T1))))) (fun x I1 T1 => Q (.inr x) I1 T1))))
theorem s_X_open_4 {E : MEnv} {I : II} {T : TT} {Q : QQ} {x1 : Int32} {x2 : Int32} (hq : t_X_open_4 E I T Q x1 x2) : ev E 292 4 [some (.ref 0), some (.int x1), some (.int x2)] [] I T Q := by
  unfold t_X_open_4 at hq
  refine ev_seq 4 (ip' := 8) (loc' := [some (.ref 0), some (.int x1), some (.int x2)]) (st' := [(.int (I 3 6)), (.int x2)]) (I1 := I) (T1 := T) rfl ?_
  refine ev_br (p := (I 3 6) ≤ x2) (a := 27) (b := 9) (st' := []) inferInstance rfl rfl (fun hb => ?_) (fun hb => ?_)
  · have hq := hq.1 hb
    refine ev_seq 1 (ip' := 28) (loc' := [some (.ref 0), some (.int x1), some (.int x2)]) (st' := [(.int x1)]) (I1 := I) (T1 := T) rfl ?_
    exact ev_ret rfl rfl hq
  · have hq := hq.2 hb
    refine ev_seq 2 (ip' := 11) (loc' := [some (.ref 0), some (.int x1), some (.int x2)]) (st' := [(.ref 28)]) (I1 := I) (T1 := T) rfl ?_
    refine ev_callI rfl rfl rfl (fun v1 I1 T1 hq => ?_) (fun x I1 T1 hq => ?_) hq
    · refine ev_br (p := v1 ≤ 0) (a := 25) (b := 13) (st' := []) inferInstance rfl rfl (fun hb => ?_) (fun hb => ?_)
      · have hq := hq.1 hb
        exact s_X_open_25 (T := T1) hq
      · have hq := hq.2 hb
        refine ev_seq 3 (ip' := 16) (loc' := [some (.ref 0), some (.int x1), some (.int x2)]) (st' := [(.int x2), (.ref 28)]) (I1 := I1) (T1 := T1) rfl ?_
        refine ev_callI rfl rfl rfl (fun v2 I2 T2 hq => ?_) (fun x I1 T1 hq => ?_) hq
        · refine ev_seq 1 (ip' := 18) (loc' := [some (.ref 0), some (.int x1), some (.int x2)]) (st' := [(.int 2), (.int v2)]) (I1 := I2) (T1 := T2) rfl ?_
          refine ev_br (p := v2 = 2) (a := 19) (b := 25) (st' := []) inferInstance rfl rfl (fun hb => ?_) (fun hb => ?_)
          · have hq := hq.1 hb
            refine ev_seq 6 (ip' := 25) (loc' := [some (.ref 0), some (.int (x1 ||| ((1 : Int32) <<< (x2 &&& 31)))), some (.int x2)]) (st' := []) (I1 := I2) (T1 := T2) rfl ?_
            exact s_X_open_25 (T := T2) hq
          · have hq := hq.2 hb
            exact s_X_open_25 (T := T2) hq
        · exact ⟨by decide, hq⟩
    · exact ⟨by decide, hq⟩
def t_X_open_0 (E : MEnv) (I : II) (T : TT) (Q : QQ) : Prop := t_X_open_4 E I T Q 0 0
theorem s_X_open_0 {E : MEnv} {I : II} {T : TT} {Q : QQ} (hq : t_X_open_0 E I T Q) : ev E 292 0 [some (.ref 0), none, none] [] I T Q := by
  unfold t_X_open_0 at hq
  refine ev_seq 4 (ip' := 4) (loc' := [some (.ref 0), some (.int 0), some (.int 0)]) (st' := []) (I1 := I) (T1 := T) rfl ?_
  exact s_X_open_4 (T := T) hq
/-- FeltHarness.pairs(I)I -/
def t_X_pairs_0 (E : MEnv) (I : II) (T : TT) (Q : QQ) (x1 : Int32) : Prop := ev E 188 0 [some (.ref 0), some (.int x1)] [] I T (KV (fun I1 T1 => ev E 111 0 [some (.ref 3), some (.int x1)] [] I1 T1 (KI (fun v2 I2 T2 => Q (.inl (some (.int (((((1 : Int32) <<< ((I1 3 5) &&& 31)) - 1) &&& (((1 : Int32) <<< (x1 &&& 31)) ^^^ (-1))) &&& (v2 ^^^ (-1)))))) I2 T2) (fun x I1 T1 => Q (.inr x) I1 T1))) (fun x I1 T1 => Q (.inr x) I1 T1))
theorem s_X_pairs_0 {E : MEnv} {I : II} {T : TT} {Q : QQ} {x1 : Int32} (hq : t_X_pairs_0 E I T Q x1) : ev E 306 0 [some (.ref 0), some (.int x1), none] [] I T Q := by
  unfold t_X_pairs_0 at hq
  refine ev_seq 2 (ip' := 2) (loc' := [some (.ref 0), some (.int x1), none]) (st' := [(.int x1), (.ref 0)]) (I1 := I) (T1 := T) rfl ?_
  refine ev_callV rfl rfl rfl (fun I1 T1 hq => ?_) (fun x I1 T1 hq => ?_) hq
  · refine ev_seq 18 (ip' := 21) (loc' := [some (.ref 0), some (.int x1), some (.int (((1 : Int32) <<< ((I1 3 5) &&& 31)) - 1))]) (st' := [(.int x1), (.ref 3), (.int ((((1 : Int32) <<< ((I1 3 5) &&& 31)) - 1) &&& (((1 : Int32) <<< (x1 &&& 31)) ^^^ (-1))))]) (I1 := I1) (T1 := T1) rfl ?_
    refine ev_callI rfl rfl rfl (fun v2 I2 T2 hq => ?_) (fun x I1 T1 hq => ?_) hq
    · refine ev_seq 3 (ip' := 25) (loc' := [some (.ref 0), some (.int x1), some (.int (((1 : Int32) <<< ((I1 3 5) &&& 31)) - 1))]) (st' := [(.int (((((1 : Int32) <<< ((I1 3 5) &&& 31)) - 1) &&& (((1 : Int32) <<< (x1 &&& 31)) ^^^ (-1))) &&& (v2 ^^^ (-1))))]) (I1 := I2) (T1 := T2) rfl ?_
      exact ev_ret rfl rfl hq
    · exact ⟨by decide, hq⟩
  · exact ⟨by decide, hq⟩
/-- FeltHarness.playSeason(III)V -/
def t_X_playSeason_41 (E : MEnv) (I : II) (T : TT) (Q : QQ) (x2 : Int32) (x3 : Int32) (x4 : Int32) : Prop := ev E 142 0 [some (.ref 30), none] [] I T (KV (fun I1 T1 => ev E 313 10 [some (.ref 0), none, some (.int x2), some (.int x3), some (.int (x4 + 1))] [] I1 T1 Q) (fun x I1 T1 => Q (.inr x) I1 T1))
theorem s_X_playSeason_41 {E : MEnv} {I : II} {T : TT} {Q : QQ} {x2 : Int32} {x3 : Int32} {x4 : Int32} (hq : t_X_playSeason_41 E I T Q x2 x3 x4) : ev E 313 41 [some (.ref 0), none, some (.int x2), some (.int x3), some (.int x4)] [] I T Q := by
  unfold t_X_playSeason_41 at hq
  refine ev_seq 2 (ip' := 43) (loc' := [some (.ref 0), none, some (.int x2), some (.int x3), some (.int x4)]) (st' := [(.ref 30)]) (I1 := I) (T1 := T) rfl ?_
  refine ev_callV rfl rfl rfl (fun I1 T1 hq => ?_) (fun x I1 T1 hq => ?_) hq
  · refine ev_seq 2 (ip' := 10) (loc' := [some (.ref 0), none, some (.int x2), some (.int x3), some (.int (x4 + 1))]) (st' := []) (I1 := I1) (T1 := T1) rfl ?_
    exact hq
  · exact ⟨by decide, hq⟩
def t_X_playSeason_10 (E : MEnv) (I : II) (T : TT) (Q : QQ) (x2 : Int32) (x3 : Int32) (x4 : Int32) : Prop := (x2 ≤ x4 → (Q (.inl none) I T)) ∧ (¬ (x2 ≤ x4) → (ev E 314 0 [some (.ref 0), none, none] [] I T (KV (fun I1 T1 => ev E 315 0 [some (.ref 0), some (.int 16)] [] I1 T1 (KI (fun v2 I2 T2 => (x3 ≤ v2 → (t_X_playSeason_41 E I2 T2 Q x2 x3 x4)) ∧ (¬ (x3 ≤ v2) → (ev E 115 0 [some (.ref 30)] [] I2 T2 (KI (fun v3 I3 T3 => (v3 < (I3 3 6) → (ev E 114 0 [some (.ref 30)] [] I3 T3 (KI (fun v4 I4 T4 => (v4 = 0 → (t_X_playSeason_41 E I4 T4 Q x2 x3 x4)) ∧ (¬ (v4 = 0) → (ev E 115 0 [some (.ref 30)] [] I4 T4 (KI (fun v5 I5 T5 => ev E 120 0 [some (.ref 30), some (.int v5), none, none, none] [] I5 T5 (KV (fun I6 T6 => t_X_playSeason_41 E I6 T6 Q x2 x3 x4) (fun x I1 T1 => Q (.inr x) I1 T1))) (fun x I1 T1 => Q (.inr x) I1 T1))))) (fun x I1 T1 => Q (.inr x) I1 T1)))) ∧ (¬ (v3 < (I3 3 6)) → (ev E 141 0 [some (.ref 30)] [] I3 T3 (KV (fun I7 T7 => t_X_playSeason_41 E I7 T7 Q x2 x3 x4) (fun x I1 T1 => Q (.inr x) I1 T1))))) (fun x I1 T1 => Q (.inr x) I1 T1))))) (fun x I1 T1 => Q (.inr x) I1 T1))) (fun x I1 T1 => Q (.inr x) I1 T1))))
theorem s_X_playSeason_10 {E : MEnv} {I : II} {T : TT} {Q : QQ} {x2 : Int32} {x3 : Int32} {x4 : Int32} (hq : t_X_playSeason_10 E I T Q x2 x3 x4) : ev E 313 10 [some (.ref 0), none, some (.int x2), some (.int x3), some (.int x4)] [] I T Q := by
  unfold t_X_playSeason_10 at hq
  refine ev_seq 2 (ip' := 12) (loc' := [some (.ref 0), none, some (.int x2), some (.int x3), some (.int x4)]) (st' := [(.int x2), (.int x4)]) (I1 := I) (T1 := T) rfl ?_
  refine ev_br (p := x2 ≤ x4) (a := 46) (b := 13) (st' := []) inferInstance rfl rfl (fun hb => ?_) (fun hb => ?_)
  · have hq := hq.1 hb
    exact ev_ret rfl rfl hq
  · have hq := hq.2 hb
    refine ev_seq 1 (ip' := 14) (loc' := [some (.ref 0), none, some (.int x2), some (.int x3), some (.int x4)]) (st' := [(.ref 0)]) (I1 := I) (T1 := T) rfl ?_
    refine ev_callV rfl rfl rfl (fun I1 T1 hq => ?_) (fun x I1 T1 hq => ?_) hq
    · refine ev_seq 2 (ip' := 17) (loc' := [some (.ref 0), none, some (.int x2), some (.int x3), some (.int x4)]) (st' := [(.int 16), (.ref 0)]) (I1 := I1) (T1 := T1) rfl ?_
      refine ev_callI rfl rfl rfl (fun v2 I2 T2 hq => ?_) (fun x I1 T1 hq => ?_) hq
      · refine ev_seq 1 (ip' := 19) (loc' := [some (.ref 0), none, some (.int x2), some (.int x3), some (.int x4)]) (st' := [(.int x3), (.int v2)]) (I1 := I2) (T1 := T2) rfl ?_
        refine ev_br (p := x3 ≤ v2) (a := 41) (b := 20) (st' := []) inferInstance rfl rfl (fun hb => ?_) (fun hb => ?_)
        · have hq := hq.1 hb
          exact s_X_playSeason_41 (T := T2) hq
        · have hq := hq.2 hb
          refine ev_seq 2 (ip' := 22) (loc' := [some (.ref 0), none, some (.int x2), some (.int x3), some (.int x4)]) (st' := [(.ref 30)]) (I1 := I2) (T1 := T2) rfl ?_
          refine ev_callI rfl rfl rfl (fun v3 I3 T3 hq => ?_) (fun x I1 T1 hq => ?_) hq
          · refine ev_seq 3 (ip' := 26) (loc' := [some (.ref 0), none, some (.int x2), some (.int x3), some (.int x4)]) (st' := [(.int (I3 3 6)), (.int v3)]) (I1 := I3) (T1 := T3) rfl ?_
            refine ev_br (p := v3 < (I3 3 6)) (a := 31) (b := 27) (st' := []) inferInstance rfl rfl (fun hb => ?_) (fun hb => ?_)
            · have hq := hq.1 hb
              refine ev_seq 2 (ip' := 33) (loc' := [some (.ref 0), none, some (.int x2), some (.int x3), some (.int x4)]) (st' := [(.ref 30)]) (I1 := I3) (T1 := T3) rfl ?_
              refine ev_callI rfl rfl rfl (fun v4 I4 T4 hq => ?_) (fun x I1 T1 hq => ?_) hq
              · refine ev_br (p := v4 = 0) (a := 41) (b := 35) (st' := []) inferInstance rfl rfl (fun hb => ?_) (fun hb => ?_)
                · have hq := hq.1 hb
                  exact s_X_playSeason_41 (T := T4) hq
                · have hq := hq.2 hb
                  refine ev_seq 4 (ip' := 39) (loc' := [some (.ref 0), none, some (.int x2), some (.int x3), some (.int x4)]) (st' := [(.ref 30), (.ref 30)]) (I1 := I4) (T1 := T4) rfl ?_
                  refine ev_callI rfl rfl rfl (fun v5 I5 T5 hq => ?_) (fun x I1 T1 hq => ?_) hq
                  · refine ev_callV rfl rfl rfl (fun I6 T6 hq => ?_) (fun x I1 T1 hq => ?_) hq
                    · exact s_X_playSeason_41 (T := T6) hq
                    · exact ⟨by decide, hq⟩
                  · exact ⟨by decide, hq⟩
              · exact ⟨by decide, hq⟩
            · have hq := hq.2 hb
              refine ev_seq 2 (ip' := 29) (loc' := [some (.ref 0), none, some (.int x2), some (.int x3), some (.int x4)]) (st' := [(.ref 30)]) (I1 := I3) (T1 := T3) rfl ?_
              refine ev_callV rfl rfl rfl (fun I7 T7 hq => ?_) (fun x I1 T1 hq => ?_) hq
              · refine ev_seq 1 (ip' := 41) (loc' := [some (.ref 0), none, some (.int x2), some (.int x3), some (.int x4)]) (st' := []) (I1 := I7) (T1 := T7) rfl ?_
                exact s_X_playSeason_41 (T := T7) hq
              · exact ⟨by decide, hq⟩
          · exact ⟨by decide, hq⟩
      · exact ⟨by decide, hq⟩
    · exact ⟨by decide, hq⟩
def t_X_playSeason_0 (E : MEnv) (I : II) (T : TT) (Q : QQ) (x1 : Int32) (x2 : Int32) (x3 : Int32) : Prop := ev E 212 0 [some (.ref 30), some (.ref 28)] [] I T (KV (fun I1 T1 => t_X_playSeason_10 E (m_up I1 0 12 x1) T1 Q x2 x3 0) (fun x I1 T1 => Q (.inr x) I1 T1))
theorem s_X_playSeason_0 {E : MEnv} {I : II} {T : TT} {Q : QQ} {x1 : Int32} {x2 : Int32} {x3 : Int32} (hq : t_X_playSeason_0 E I T Q x1 x2 x3) : ev E 313 0 [some (.ref 0), some (.int x1), some (.int x2), some (.int x3), none] [] I T Q := by
  unfold t_X_playSeason_0 at hq
  refine ev_seq 4 (ip' := 4) (loc' := [some (.ref 0), some (.int x1), some (.int x2), some (.int x3), none]) (st' := [(.ref 28), (.ref 30)]) (I1 := I) (T1 := T) rfl ?_
  refine ev_callV rfl rfl rfl (fun I1 T1 hq => ?_) (fun x I1 T1 hq => ?_) hq
  · refine ev_seq 5 (ip' := 10) (loc' := [some (.ref 0), some (.int x1), some (.int x2), some (.int x3), some (.int 0)]) (st' := []) (I1 := m_up I1 0 12 x1) (T1 := T1) rfl ?_
    refine ev_fg [true, false, true, true, true] (loc' := [some (.ref 0), none, some (.int x2), some (.int x3), some (.int 0)]) rfl ?_
    exact s_X_playSeason_10 (T := T1) hq
  · exact ⟨by decide, hq⟩
/-- FeltHarness.power(II)J -/
def t_X_power_4 (E : MEnv) (I : II) (T : TT) (Q : QQ) (x0 : Int32) (x1 : Int32) (x2 : Int64) (x4 : Int32) : Prop := (x1 ≤ x4 → (Q (.inl (some (.long x2))) I T)) ∧ (¬ (x1 ≤ x4) → (ev E 272 4 [some (.int x0), some (.int x1), some (.long (x2 * x0.toInt64)), none, some (.int (x4 + 1))] [] I T Q))
theorem s_X_power_4 {E : MEnv} {I : II} {T : TT} {Q : QQ} {x0 : Int32} {x1 : Int32} {x2 : Int64} {x4 : Int32} (hq : t_X_power_4 E I T Q x0 x1 x2 x4) : ev E 272 4 [some (.int x0), some (.int x1), some (.long x2), none, some (.int x4)] [] I T Q := by
  unfold t_X_power_4 at hq
  refine ev_seq 2 (ip' := 6) (loc' := [some (.int x0), some (.int x1), some (.long x2), none, some (.int x4)]) (st' := [(.int x1), (.int x4)]) (I1 := I) (T1 := T) rfl ?_
  refine ev_br (p := x1 ≤ x4) (a := 14) (b := 7) (st' := []) inferInstance rfl rfl (fun hb => ?_) (fun hb => ?_)
  · have hq := hq.1 hb
    refine ev_seq 1 (ip' := 15) (loc' := [some (.int x0), some (.int x1), some (.long x2), none, some (.int x4)]) (st' := [(.long x2)]) (I1 := I) (T1 := T) rfl ?_
    exact ev_ret rfl rfl hq
  · have hq := hq.2 hb
    refine ev_seq 7 (ip' := 4) (loc' := [some (.int x0), some (.int x1), some (.long (x2 * x0.toInt64)), none, some (.int (x4 + 1))]) (st' := []) (I1 := I) (T1 := T) rfl ?_
    exact hq
def t_X_power_0 (E : MEnv) (I : II) (T : TT) (Q : QQ) (x0 : Int32) (x1 : Int32) : Prop := t_X_power_4 E I T Q x0 x1 1 0
theorem s_X_power_0 {E : MEnv} {I : II} {T : TT} {Q : QQ} {x0 : Int32} {x1 : Int32} (hq : t_X_power_0 E I T Q x0 x1) : ev E 272 0 [some (.int x0), some (.int x1), none, none, none] [] I T Q := by
  unfold t_X_power_0 at hq
  refine ev_seq 4 (ip' := 4) (loc' := [some (.int x0), some (.int x1), some (.long 1), none, some (.int 0)]) (st' := []) (I1 := I) (T1 := T) rfl ?_
  exact s_X_power_4 (T := T) hq
/-- FeltHarness.rested(II)I -/
def t_X_rested_0 (E : MEnv) (I : II) (T : TT) (Q : QQ) (x1 : Int32) (x2 : Int32) : Prop := ev E 188 0 [some (.ref 0), some (.int x1)] [] I T (KV (fun I1 T1 => ev E 27 0 [some (.int x2), some (.int 0), some (.int 99)] [] I1 T1 (KI (fun v2 I2 T2 => ev E 28 0 [some (.ref 0), some (.int v2)] [] I2 T2 (KV (fun I3 T3 => ev E 127 0 [some (.ref 28), some (.int x1)] [] I3 T3 (KI (fun v4 I4 T4 => ev E 143 0 [some (.ref 28), some (.int x1)] [] I4 T4 (KI (fun v5 I5 T5 => Q (.inl (some (.int (if 0 < (v4 - (x2 * v5)) then (v4 - (x2 * v5)) else 0)))) I5 T5) (fun x I1 T1 => Q (.inr x) I1 T1))) (fun x I1 T1 => Q (.inr x) I1 T1))) (fun x I1 T1 => Q (.inr x) I1 T1))) (fun _ _ _ => False))) (fun x I1 T1 => Q (.inr x) I1 T1))
theorem s_X_rested_0 {E : MEnv} {I : II} {T : TT} {Q : QQ} {x1 : Int32} {x2 : Int32} (hq : t_X_rested_0 E I T Q x1 x2) : ev E 297 0 [some (.ref 0), some (.int x1), some (.int x2)] [] I T Q := by
  unfold t_X_rested_0 at hq
  refine ev_seq 2 (ip' := 2) (loc' := [some (.ref 0), some (.int x1), some (.int x2)]) (st' := [(.int x1), (.ref 0)]) (I1 := I) (T1 := T) rfl ?_
  refine ev_callV rfl rfl rfl (fun I1 T1 hq => ?_) (fun x I1 T1 hq => ?_) hq
  · refine ev_seq 4 (ip' := 7) (loc' := [some (.ref 0), some (.int x1), some (.int x2)]) (st' := [(.int 99), (.int 0), (.int x2), (.ref 0)]) (I1 := I1) (T1 := T1) rfl ?_
    refine ev_callI rfl rfl rfl (fun v2 I2 T2 hq => ?_) (fun x I1 T1 hq => ?_) hq
    · refine ev_callV rfl rfl rfl (fun I3 T3 hq => ?_) (fun x I1 T1 hq => ?_) hq
      · refine ev_seq 4 (ip' := 13) (loc' := [some (.ref 0), some (.int x1), some (.int x2)]) (st' := [(.int x1), (.ref 28), (.int 0)]) (I1 := I3) (T1 := T3) rfl ?_
        refine ev_callI rfl rfl rfl (fun v4 I4 T4 hq => ?_) (fun x I1 T1 hq => ?_) hq
        · refine ev_seq 4 (ip' := 18) (loc' := [some (.ref 0), some (.int x1), some (.int x2)]) (st' := [(.int x1), (.ref 28), (.int x2), (.int v4), (.int 0)]) (I1 := I4) (T1 := T4) rfl ?_
          refine ev_callI rfl rfl rfl (fun v5 I5 T5 hq => ?_) (fun x I1 T1 hq => ?_) hq
          · refine ev_seq 3 (ip' := 22) (loc' := [some (.ref 0), some (.int x1), some (.int x2)]) (st' := [(.int (if 0 < (v4 - (x2 * v5)) then (v4 - (x2 * v5)) else 0))]) (I1 := I5) (T1 := T5) rfl ?_
            exact ev_ret rfl rfl hq
          · exact ⟨by decide, hq⟩
        · exact ⟨by decide, hq⟩
      · exact ⟨by decide, hq⟩
    · exact hq.elim
  · exact ⟨by decide, hq⟩
/-- FeltHarness.restore()I -/
def t_X_restore_0 (E : MEnv) (I : II) (T : TT) (Q : QQ) : Prop := ((I 32 4) = 0 → (Q (.inl (some (.int (-1)))) I T)) ∧ (¬ ((I 32 4) = 0) → (ev E 53 0 [some (.ref 36)] [] I T (KV (fun I1 T1 => ev E 330 0 [some (.ref 32), some (.ref 28), none] [] I1 T1 (KV (fun I2 T2 => Q (.inl (some (.int ((m_up I2 0 13 0) 32 4)))) (m_up I2 0 13 0) T2) (fun x I1 T1 => Q (.inr x) I1 T1))) (fun x I1 T1 => Q (.inr x) I1 T1))))
theorem s_X_restore_0 {E : MEnv} {I : II} {T : TT} {Q : QQ} (hq : t_X_restore_0 E I T Q) : ev E 329 0 [some (.ref 0)] [] I T Q := by
  unfold t_X_restore_0 at hq
  refine ev_seq 3 (ip' := 3) (loc' := [some (.ref 0)]) (st' := [(.int (I 32 4))]) (I1 := I) (T1 := T) rfl ?_
  refine ev_br (p := (I 32 4) = 0) (a := 4) (b := 6) (st' := []) inferInstance rfl rfl (fun hb => ?_) (fun hb => ?_)
  · have hq := hq.1 hb
    refine ev_seq 1 (ip' := 5) (loc' := [some (.ref 0)]) (st' := [(.int (-1))]) (I1 := I) (T1 := T) rfl ?_
    exact ev_ret rfl rfl hq
  · have hq := hq.2 hb
    refine ev_seq 2 (ip' := 8) (loc' := [some (.ref 0)]) (st' := [(.ref 36)]) (I1 := I) (T1 := T) rfl ?_
    refine ev_callV rfl rfl rfl (fun I1 T1 hq => ?_) (fun x I1 T1 hq => ?_) hq
    · refine ev_seq 4 (ip' := 13) (loc' := [some (.ref 0)]) (st' := [(.ref 28), (.ref 32)]) (I1 := I1) (T1 := T1) rfl ?_
      refine ev_callV rfl rfl rfl (fun I2 T2 hq => ?_) (fun x I1 T1 hq => ?_) hq
      · refine ev_seq 6 (ip' := 20) (loc' := [some (.ref 0)]) (st' := [(.int ((m_up I2 0 13 0) 32 4))]) (I1 := m_up I2 0 13 0) (T1 := T2) rfl ?_
        exact ev_ret rfl rfl hq
      · exact ⟨by decide, hq⟩
    · exact ⟨by decide, hq⟩
/-- FeltHarness.season(IIII)I -/
def t_X_season_19 (E : MEnv) (I : II) (T : TT) (Q : QQ) (x1 : Int32) (x2 : Int32) (x3 : Int32) (x4 : Int32) (y1 : Int32) : Prop := ev E 28 0 [some (.ref 0), some (.int y1)] [] I T (KV (fun I1 T1 => ev E 313 0 [some (.ref 0), some (.int x1), some (.int x2), some (.int x3), none] [] I1 T1 (KV (fun I2 T2 => ev E 312 (m_tsw 0 2 [27, 30, 40] 50 x4) [some (.ref 0), some (.int x1), some (.int x2), some (.int x3), some (.int x4)] [] I2 T2 Q) (fun x I1 T1 => Q (.inr x) I1 T1))) (fun x I1 T1 => Q (.inr x) I1 T1))
theorem s_X_season_19 {E : MEnv} {I : II} {T : TT} {Q : QQ} {x1 : Int32} {x2 : Int32} {x3 : Int32} {x4 : Int32} {y1 : Int32} (hq : t_X_season_19 E I T Q x1 x2 x3 x4 y1) : ev E 312 19 [some (.ref 0), some (.int x1), some (.int x2), some (.int x3), some (.int x4)] [(.int y1), (.ref 0)] I T Q := by
  unfold t_X_season_19 at hq
  refine ev_callV rfl rfl rfl (fun I1 T1 hq => ?_) (fun x I1 T1 hq => ?_) hq
  · refine ev_seq 4 (ip' := 24) (loc' := [some (.ref 0), some (.int x1), some (.int x2), some (.int x3), some (.int x4)]) (st' := [(.int x3), (.int x2), (.int x1), (.ref 0)]) (I1 := I1) (T1 := T1) rfl ?_
    refine ev_callV rfl rfl rfl (fun I2 T2 hq => ?_) (fun x I1 T1 hq => ?_) hq
    · refine ev_seq 1 (ip' := 26) (loc' := [some (.ref 0), some (.int x1), some (.int x2), some (.int x3), some (.int x4)]) (st' := [(.int x4)]) (I1 := I2) (T1 := T2) rfl ?_
      refine ev_jp rfl rfl ?_
      exact hq
    · exact ⟨by decide, hq⟩
  · exact ⟨by decide, hq⟩
def t_X_season_18 (E : MEnv) (I : II) (T : TT) (Q : QQ) (x1 : Int32) (x2 : Int32) (x3 : Int32) (x4 : Int32) : Prop := t_X_season_19 E I T Q x1 x2 x3 x4 0
theorem s_X_season_18 {E : MEnv} {I : II} {T : TT} {Q : QQ} {x1 : Int32} {x2 : Int32} {x3 : Int32} {x4 : Int32} (hq : t_X_season_18 E I T Q x1 x2 x3 x4) : ev E 312 18 [some (.ref 0), some (.int x1), some (.int x2), some (.int x3), some (.int x4)] [(.ref 0)] I T Q := by
  unfold t_X_season_18 at hq
  refine ev_seq 1 (ip' := 19) (loc' := [some (.ref 0), some (.int x1), some (.int x2), some (.int x3), some (.int x4)]) (st' := [(.int 0), (.ref 0)]) (I1 := I) (T1 := T) rfl ?_
  exact s_X_season_19 (T := T) hq
def t_X_season_0 (E : MEnv) (I : II) (T : TT) (Q : QQ) (x1 : Int32) (x2 : Int32) (x3 : Int32) (x4 : Int32) : Prop := ev E 27 0 [some (.int x2), some (.int 1), some (.int 96)] [] I T (KI (fun v1 I1 T1 => (v1 = 0 → (t_X_season_18 E I1 T1 Q x1 x2 x3 x4)) ∧ (¬ (v1 = 0) → (ev E 27 0 [some (.int x3), some (.int 0), some (.int 16)] [] I1 T1 (KI (fun v2 I2 T2 => (v2 = 0 → (t_X_season_18 E I2 T2 Q x1 x2 x3 x4)) ∧ (¬ (v2 = 0) → (ev E 27 0 [some (.int x4), some (.int 0), some (.int 3)] [] I2 T2 (KI (fun v3 I3 T3 => (v3 = 0 → (t_X_season_18 E I3 T3 Q x1 x2 x3 x4)) ∧ (¬ (v3 = 0) → (t_X_season_19 E I3 T3 Q x1 x2 x3 x4 1))) (fun _ _ _ => False))))) (fun _ _ _ => False))))) (fun _ _ _ => False))
theorem s_X_season_0 {E : MEnv} {I : II} {T : TT} {Q : QQ} {x1 : Int32} {x2 : Int32} {x3 : Int32} {x4 : Int32} (hq : t_X_season_0 E I T Q x1 x2 x3 x4) : ev E 312 0 [some (.ref 0), some (.int x1), some (.int x2), some (.int x3), some (.int x4)] [] I T Q := by
  unfold t_X_season_0 at hq
  refine ev_seq 4 (ip' := 4) (loc' := [some (.ref 0), some (.int x1), some (.int x2), some (.int x3), some (.int x4)]) (st' := [(.int 96), (.int 1), (.int x2), (.ref 0)]) (I1 := I) (T1 := T) rfl ?_
  refine ev_callI rfl rfl rfl (fun v1 I1 T1 hq => ?_) (fun x I1 T1 hq => ?_) hq
  · refine ev_br (p := v1 = 0) (a := 18) (b := 6) (st' := [(.ref 0)]) inferInstance rfl rfl (fun hb => ?_) (fun hb => ?_)
    · have hq := hq.1 hb
      exact s_X_season_18 (T := T1) hq
    · have hq := hq.2 hb
      refine ev_seq 3 (ip' := 9) (loc' := [some (.ref 0), some (.int x1), some (.int x2), some (.int x3), some (.int x4)]) (st' := [(.int 16), (.int 0), (.int x3), (.ref 0)]) (I1 := I1) (T1 := T1) rfl ?_
      refine ev_callI rfl rfl rfl (fun v2 I2 T2 hq => ?_) (fun x I1 T1 hq => ?_) hq
      · refine ev_br (p := v2 = 0) (a := 18) (b := 11) (st' := [(.ref 0)]) inferInstance rfl rfl (fun hb => ?_) (fun hb => ?_)
        · have hq := hq.1 hb
          exact s_X_season_18 (T := T2) hq
        · have hq := hq.2 hb
          refine ev_seq 3 (ip' := 14) (loc' := [some (.ref 0), some (.int x1), some (.int x2), some (.int x3), some (.int x4)]) (st' := [(.int 3), (.int 0), (.int x4), (.ref 0)]) (I1 := I2) (T1 := T2) rfl ?_
          refine ev_callI rfl rfl rfl (fun v3 I3 T3 hq => ?_) (fun x I1 T1 hq => ?_) hq
          · refine ev_br (p := v3 = 0) (a := 18) (b := 16) (st' := [(.ref 0)]) inferInstance rfl rfl (fun hb => ?_) (fun hb => ?_)
            · have hq := hq.1 hb
              exact s_X_season_18 (T := T3) hq
            · have hq := hq.2 hb
              refine ev_seq 2 (ip' := 19) (loc' := [some (.ref 0), some (.int x1), some (.int x2), some (.int x3), some (.int x4)]) (st' := [(.int 1), (.ref 0)]) (I1 := I3) (T1 := T3) rfl ?_
              exact s_X_season_19 (T := T3) hq
          · exact hq.elim
      · exact hq.elim
  · exact hq.elim
def t_X_season_27 (E : MEnv) (I : II) (T : TT) (Q : QQ) : Prop := ev E 316 0 [some (.ref 0)] [] I T (KI (fun v1 I1 T1 => Q (.inl (some (.int v1))) I1 T1) (fun x I1 T1 => Q (.inr x) I1 T1))
theorem s_X_season_27 {E : MEnv} {I : II} {T : TT} {Q : QQ} (hq : t_X_season_27 E I T Q) : ev E 312 27 [some (.ref 0), none, none, none, none] [] I T Q := by
  unfold t_X_season_27 at hq
  refine ev_seq 1 (ip' := 28) (loc' := [some (.ref 0), none, none, none, none]) (st' := [(.ref 0)]) (I1 := I) (T1 := T) rfl ?_
  refine ev_callI rfl rfl rfl (fun v1 I1 T1 hq => ?_) (fun x I1 T1 hq => ?_) hq
  · exact ev_ret rfl rfl hq
  · exact ⟨by decide, hq⟩
def t_X_season_30 (E : MEnv) (I : II) (T : TT) (Q : QQ) : Prop := ev E 184 0 [some (.ref 30), some (.int 1)] [] I T (KI (fun v1 I1 T1 => ev E 184 0 [some (.ref 28), some (.int 1)] [] I1 T1 (KI (fun v2 I2 T2 => Q (.inl (some (.int (v1 - v2)))) I2 T2) (fun x I1 T1 => Q (.inr x) I1 T1))) (fun x I1 T1 => Q (.inr x) I1 T1))
theorem s_X_season_30 {E : MEnv} {I : II} {T : TT} {Q : QQ} (hq : t_X_season_30 E I T Q) : ev E 312 30 [some (.ref 0), none, none, none, none] [] I T Q := by
  unfold t_X_season_30 at hq
  refine ev_seq 3 (ip' := 33) (loc' := [some (.ref 0), none, none, none, none]) (st' := [(.int 1), (.ref 30)]) (I1 := I) (T1 := T) rfl ?_
  refine ev_callI rfl rfl rfl (fun v1 I1 T1 hq => ?_) (fun x I1 T1 hq => ?_) hq
  · refine ev_seq 3 (ip' := 37) (loc' := [some (.ref 0), none, none, none, none]) (st' := [(.int 1), (.ref 28), (.int v1)]) (I1 := I1) (T1 := T1) rfl ?_
    refine ev_callI rfl rfl rfl (fun v2 I2 T2 hq => ?_) (fun x I1 T1 hq => ?_) hq
    · refine ev_seq 1 (ip' := 39) (loc' := [some (.ref 0), none, none, none, none]) (st' := [(.int (v1 - v2))]) (I1 := I2) (T1 := T2) rfl ?_
      exact ev_ret rfl rfl hq
    · exact ⟨by decide, hq⟩
  · exact ⟨by decide, hq⟩
def t_X_season_40 (E : MEnv) (I : II) (T : TT) (Q : QQ) : Prop := ev E 184 0 [some (.ref 30), some (.int 0)] [] I T (KI (fun v1 I1 T1 => ev E 184 0 [some (.ref 28), some (.int 0)] [] I1 T1 (KI (fun v2 I2 T2 => Q (.inl (some (.int (v1 - v2)))) I2 T2) (fun x I1 T1 => Q (.inr x) I1 T1))) (fun x I1 T1 => Q (.inr x) I1 T1))
theorem s_X_season_40 {E : MEnv} {I : II} {T : TT} {Q : QQ} (hq : t_X_season_40 E I T Q) : ev E 312 40 [some (.ref 0), none, none, none, none] [] I T Q := by
  unfold t_X_season_40 at hq
  refine ev_seq 3 (ip' := 43) (loc' := [some (.ref 0), none, none, none, none]) (st' := [(.int 0), (.ref 30)]) (I1 := I) (T1 := T) rfl ?_
  refine ev_callI rfl rfl rfl (fun v1 I1 T1 hq => ?_) (fun x I1 T1 hq => ?_) hq
  · refine ev_seq 3 (ip' := 47) (loc' := [some (.ref 0), none, none, none, none]) (st' := [(.int 0), (.ref 28), (.int v1)]) (I1 := I1) (T1 := T1) rfl ?_
    refine ev_callI rfl rfl rfl (fun v2 I2 T2 hq => ?_) (fun x I1 T1 hq => ?_) hq
    · refine ev_seq 1 (ip' := 49) (loc' := [some (.ref 0), none, none, none, none]) (st' := [(.int (v1 - v2))]) (I1 := I2) (T1 := T2) rfl ?_
      exact ev_ret rfl rfl hq
    · exact ⟨by decide, hq⟩
  · exact ⟨by decide, hq⟩
def t_X_season_50 (E : MEnv) (I : II) (T : TT) (Q : QQ) : Prop := ev E 112 0 [some (.ref 30), none, none] [] I T (KI (fun v1 I1 T1 => Q (.inl (some (.int v1))) I1 T1) (fun x I1 T1 => Q (.inr x) I1 T1))
theorem s_X_season_50 {E : MEnv} {I : II} {T : TT} {Q : QQ} (hq : t_X_season_50 E I T Q) : ev E 312 50 [some (.ref 0), none, none, none, none] [] I T Q := by
  unfold t_X_season_50 at hq
  refine ev_seq 2 (ip' := 52) (loc' := [some (.ref 0), none, none, none, none]) (st' := [(.ref 30)]) (I1 := I) (T1 := T) rfl ?_
  refine ev_callI rfl rfl rfl (fun v1 I1 T1 hq => ?_) (fun x I1 T1 hq => ?_) hq
  · exact ev_ret rfl rfl hq
  · exact ⟨by decide, hq⟩
/-- FeltHarness.side(I)I -/
def t_X_side_18 (E : MEnv) (I : II) (T : TT) (Q : QQ) (y0 : Int32) : Prop := Q (.inl (some (.int y0))) I T
theorem s_X_side_18 {E : MEnv} {I : II} {T : TT} {Q : QQ} {y0 : Int32} (hq : t_X_side_18 E I T Q y0) : ev E 300 18 [none, none] [(.int y0)] I T Q := by
  unfold t_X_side_18 at hq
  exact ev_ret rfl rfl hq
def t_X_side_0 (E : MEnv) (I : II) (T : TT) (Q : QQ) (x1 : Int32) : Prop := ev E 27 0 [some (.int x1), some (.int 0), some (.int 1)] [] I T (KI (fun v1 I1 T1 => ev E 28 0 [some (.ref 0), some (.int v1)] [] I1 T1 (KV (fun I2 T2 => ev E 121 0 [some (.ref 28), none, none, none, none] [] I2 T2 (KV (fun I3 T3 => (x1 = 0 → (t_X_side_18 E I3 T3 Q (I3 28 3))) ∧ (¬ (x1 = 0) → (t_X_side_18 E I3 T3 Q (I3 28 4)))) (fun x I1 T1 => Q (.inr x) I1 T1))) (fun x I1 T1 => Q (.inr x) I1 T1))) (fun _ _ _ => False))
theorem s_X_side_0 {E : MEnv} {I : II} {T : TT} {Q : QQ} {x1 : Int32} (hq : t_X_side_0 E I T Q x1) : ev E 300 0 [some (.ref 0), some (.int x1)] [] I T Q := by
  unfold t_X_side_0 at hq
  refine ev_seq 4 (ip' := 4) (loc' := [some (.ref 0), some (.int x1)]) (st' := [(.int 1), (.int 0), (.int x1), (.ref 0)]) (I1 := I) (T1 := T) rfl ?_
  refine ev_callI rfl rfl rfl (fun v1 I1 T1 hq => ?_) (fun x I1 T1 hq => ?_) hq
  · refine ev_callV rfl rfl rfl (fun I2 T2 hq => ?_) (fun x I1 T1 hq => ?_) hq
    · refine ev_seq 2 (ip' := 8) (loc' := [some (.ref 0), some (.int x1)]) (st' := [(.ref 28)]) (I1 := I2) (T1 := T2) rfl ?_
      refine ev_callV rfl rfl rfl (fun I3 T3 hq => ?_) (fun x I1 T1 hq => ?_) hq
      · refine ev_seq 1 (ip' := 10) (loc' := [some (.ref 0), some (.int x1)]) (st' := [(.int x1)]) (I1 := I3) (T1 := T3) rfl ?_
        refine ev_br (p := x1 = 0) (a := 11) (b := 15) (st' := []) inferInstance rfl rfl (fun hb => ?_) (fun hb => ?_)
        · have hq := hq.1 hb
          refine ev_seq 4 (ip' := 18) (loc' := [some (.ref 0), some (.int x1)]) (st' := [(.int (I3 28 3))]) (I1 := I3) (T1 := T3) rfl ?_
          refine ev_fg [false, false] (loc' := [none, none]) rfl ?_
          exact s_X_side_18 (T := T3) hq
        · have hq := hq.2 hb
          refine ev_seq 3 (ip' := 18) (loc' := [some (.ref 0), some (.int x1)]) (st' := [(.int (I3 28 4))]) (I1 := I3) (T1 := T3) rfl ?_
          refine ev_fg [false, false] (loc' := [none, none]) rfl ?_
          exact s_X_side_18 (T := T3) hq
      · exact ⟨by decide, hq⟩
    · exact ⟨by decide, hq⟩
  · exact hq.elim
/-- FeltHarness.span(IIIIII)I -/
def t_X_span_90 (E : MEnv) (I : II) (T : TT) (Q : QQ) (y0 : Int32) : Prop := Q (.inl (some (.int y0))) I T
theorem s_X_span_90 {E : MEnv} {I : II} {T : TT} {Q : QQ} {y0 : Int32} (hq : t_X_span_90 E I T Q y0) : ev E 322 90 [none, none, none, none, none, none, none, none, none, none, none, none] [(.int y0)] I T Q := by
  unfold t_X_span_90 at hq
  exact ev_ret rfl rfl hq
def t_X_span_76 (E : MEnv) (I : II) (T : TT) (Q : QQ) (x1 : Int32) (x2 : Int32) (x3 : Int32) (x4 : Int32) (x5 : Int32) (x6 : Int32) (x7 : Int32) (x8 : Int32) (x10 : Int32) (y0 : Int32) (y1 : Int32) : Prop := ev E 322 42 [some (.ref 0), some (.int x1), some (.int x2), some (.int x3), some (.int x4), some (.int x5), some (.int x6), some (.int x7), some (.int x8), some (.int (y0 + y1)), some (.int (x10 + 1)), none] [] I T Q
theorem s_X_span_76 {E : MEnv} {I : II} {T : TT} {Q : QQ} {x1 : Int32} {x2 : Int32} {x3 : Int32} {x4 : Int32} {x5 : Int32} {x6 : Int32} {x7 : Int32} {x8 : Int32} {x10 : Int32} {y0 : Int32} {y1 : Int32} (hq : t_X_span_76 E I T Q x1 x2 x3 x4 x5 x6 x7 x8 x10 y0 y1) : ev E 322 76 [some (.ref 0), some (.int x1), some (.int x2), some (.int x3), some (.int x4), some (.int x5), some (.int x6), some (.int x7), some (.int x8), none, some (.int x10), none] [(.int y1), (.int y0)] I T Q := by
  unfold t_X_span_76 at hq
  refine ev_seq 4 (ip' := 42) (loc' := [some (.ref 0), some (.int x1), some (.int x2), some (.int x3), some (.int x4), some (.int x5), some (.int x6), some (.int x7), some (.int x8), some (.int (y0 + y1)), some (.int (x10 + 1)), none]) (st' := []) (I1 := I) (T1 := T) rfl ?_
  exact hq
def t_X_span_62 (E : MEnv) (I : II) (T : TT) (Q : QQ) (x1 : Int32) (x2 : Int32) (x3 : Int32) (x4 : Int32) (x5 : Int32) (x6 : Int32) (x8 : Int32) (x9 : Int32) (x10 : Int32) (x11 : Int32) (y0 : Int32) : Prop := ev E 108 0 [some (.ref 30), some (.int x6)] [] I T (KI (fun v1 I1 T1 => (v1 = 0 → (t_X_span_76 E I1 T1 Q x1 x2 x3 x4 x5 x6 y0 (if x8 < x11 then x11 else x8) x10 x9 0)) ∧ (¬ (v1 = 0) → (t_X_span_76 E I1 T1 Q x1 x2 x3 x4 x5 x6 y0 (if x8 < x11 then x11 else x8) x10 x9 1))) (fun x I1 T1 => Q (.inr x) I1 T1))
theorem s_X_span_62 {E : MEnv} {I : II} {T : TT} {Q : QQ} {x1 : Int32} {x2 : Int32} {x3 : Int32} {x4 : Int32} {x5 : Int32} {x6 : Int32} {x8 : Int32} {x9 : Int32} {x10 : Int32} {x11 : Int32} {y0 : Int32} (hq : t_X_span_62 E I T Q x1 x2 x3 x4 x5 x6 x8 x9 x10 x11 y0) : ev E 322 62 [some (.ref 0), some (.int x1), some (.int x2), some (.int x3), some (.int x4), some (.int x5), some (.int x6), none, some (.int x8), some (.int x9), some (.int x10), some (.int x11)] [(.int y0)] I T Q := by
  unfold t_X_span_62 at hq
  refine ev_seq 9 (ip' := 71) (loc' := [some (.ref 0), some (.int x1), some (.int x2), some (.int x3), some (.int x4), some (.int x5), some (.int x6), some (.int y0), some (.int (if x8 < x11 then x11 else x8)), some (.int x9), some (.int x10), some (.int x11)]) (st' := [(.int x6), (.ref 30), (.int x9)]) (I1 := I) (T1 := T) rfl ?_
  refine ev_callI rfl rfl rfl (fun v1 I1 T1 hq => ?_) (fun x I1 T1 hq => ?_) hq
  · refine ev_br (p := v1 = 0) (a := 75) (b := 73) (st' := [(.int x9)]) inferInstance rfl rfl (fun hb => ?_) (fun hb => ?_)
    · have hq := hq.1 hb
      refine ev_seq 1 (ip' := 76) (loc' := [some (.ref 0), some (.int x1), some (.int x2), some (.int x3), some (.int x4), some (.int x5), some (.int x6), some (.int y0), some (.int (if x8 < x11 then x11 else x8)), some (.int x9), some (.int x10), some (.int x11)]) (st' := [(.int 0), (.int x9)]) (I1 := I1) (T1 := T1) rfl ?_
      refine ev_fg [true, true, true, true, true, true, true, true, true, false, true, false] (loc' := [some (.ref 0), some (.int x1), some (.int x2), some (.int x3), some (.int x4), some (.int x5), some (.int x6), some (.int y0), some (.int (if x8 < x11 then x11 else x8)), none, some (.int x10), none]) rfl ?_
      exact s_X_span_76 (T := T1) hq
    · have hq := hq.2 hb
      refine ev_seq 2 (ip' := 76) (loc' := [some (.ref 0), some (.int x1), some (.int x2), some (.int x3), some (.int x4), some (.int x5), some (.int x6), some (.int y0), some (.int (if x8 < x11 then x11 else x8)), some (.int x9), some (.int x10), some (.int x11)]) (st' := [(.int 1), (.int x9)]) (I1 := I1) (T1 := T1) rfl ?_
      refine ev_fg [true, true, true, true, true, true, true, true, true, false, true, false] (loc' := [some (.ref 0), some (.int x1), some (.int x2), some (.int x3), some (.int x4), some (.int x5), some (.int x6), some (.int y0), some (.int (if x8 < x11 then x11 else x8)), none, some (.int x10), none]) rfl ?_
      exact s_X_span_76 (T := T1) hq
  · exact ⟨by decide, hq⟩
def t_X_span_42 (E : MEnv) (I : II) (T : TT) (Q : QQ) (x1 : Int32) (x2 : Int32) (x3 : Int32) (x4 : Int32) (x5 : Int32) (x6 : Int32) (x7 : Int32) (x8 : Int32) (x9 : Int32) (x10 : Int32) : Prop := (x2 ≤ x10 → ((x5 = 0 → (t_X_span_90 E I T Q x7)) ∧ (¬ (x5 = 0) → ((x5 = 1 → (t_X_span_90 E I T Q x8)) ∧ (¬ (x5 = 1) → (t_X_span_90 E I T Q x9)))))) ∧ (¬ (x2 ≤ x10) → (ev E 313 0 [some (.ref 0), some (.int (x1 + x10)), some (.int x3), some (.int x4), none] [] I T (KV (fun I1 T1 => ev E 316 0 [some (.ref 0)] [] I1 T1 (KI (fun v2 I2 T2 => (x10 = 0 → (t_X_span_62 E I2 T2 Q x1 x2 x3 x4 x5 x6 x8 x9 x10 v2 v2)) ∧ (¬ (x10 = 0) → (t_X_span_62 E I2 T2 Q x1 x2 x3 x4 x5 x6 x8 x9 x10 v2 (if v2 < x7 then v2 else x7)))) (fun x I1 T1 => Q (.inr x) I1 T1))) (fun x I1 T1 => Q (.inr x) I1 T1))))
theorem s_X_span_42 {E : MEnv} {I : II} {T : TT} {Q : QQ} {x1 : Int32} {x2 : Int32} {x3 : Int32} {x4 : Int32} {x5 : Int32} {x6 : Int32} {x7 : Int32} {x8 : Int32} {x9 : Int32} {x10 : Int32} (hq : t_X_span_42 E I T Q x1 x2 x3 x4 x5 x6 x7 x8 x9 x10) : ev E 322 42 [some (.ref 0), some (.int x1), some (.int x2), some (.int x3), some (.int x4), some (.int x5), some (.int x6), some (.int x7), some (.int x8), some (.int x9), some (.int x10), none] [] I T Q := by
  unfold t_X_span_42 at hq
  refine ev_seq 2 (ip' := 44) (loc' := [some (.ref 0), some (.int x1), some (.int x2), some (.int x3), some (.int x4), some (.int x5), some (.int x6), some (.int x7), some (.int x8), some (.int x9), some (.int x10), none]) (st' := [(.int x2), (.int x10)]) (I1 := I) (T1 := T) rfl ?_
  refine ev_br (p := x2 ≤ x10) (a := 80) (b := 45) (st' := []) inferInstance rfl rfl (fun hb => ?_) (fun hb => ?_)
  · have hq := hq.1 hb
    refine ev_seq 1 (ip' := 81) (loc' := [some (.ref 0), some (.int x1), some (.int x2), some (.int x3), some (.int x4), some (.int x5), some (.int x6), some (.int x7), some (.int x8), some (.int x9), some (.int x10), none]) (st' := [(.int x5)]) (I1 := I) (T1 := T) rfl ?_
    refine ev_br (p := x5 = 0) (a := 82) (b := 84) (st' := []) inferInstance rfl rfl (fun hb => ?_) (fun hb => ?_)
    · have hq := hq.1 hb
      refine ev_seq 2 (ip' := 90) (loc' := [some (.ref 0), some (.int x1), some (.int x2), some (.int x3), some (.int x4), some (.int x5), some (.int x6), some (.int x7), some (.int x8), some (.int x9), some (.int x10), none]) (st' := [(.int x7)]) (I1 := I) (T1 := T) rfl ?_
      refine ev_fg [false, false, false, false, false, false, false, false, false, false, false, true] (loc' := [none, none, none, none, none, none, none, none, none, none, none, none]) rfl ?_
      exact s_X_span_90 (T := T) hq
    · have hq := hq.2 hb
      refine ev_seq 2 (ip' := 86) (loc' := [some (.ref 0), some (.int x1), some (.int x2), some (.int x3), some (.int x4), some (.int x5), some (.int x6), some (.int x7), some (.int x8), some (.int x9), some (.int x10), none]) (st' := [(.int 1), (.int x5)]) (I1 := I) (T1 := T) rfl ?_
      refine ev_br (p := x5 = 1) (a := 87) (b := 89) (st' := []) inferInstance rfl rfl (fun hb => ?_) (fun hb => ?_)
      · have hq := hq.1 hb
        refine ev_seq 2 (ip' := 90) (loc' := [some (.ref 0), some (.int x1), some (.int x2), some (.int x3), some (.int x4), some (.int x5), some (.int x6), some (.int x7), some (.int x8), some (.int x9), some (.int x10), none]) (st' := [(.int x8)]) (I1 := I) (T1 := T) rfl ?_
        refine ev_fg [false, false, false, false, false, false, false, false, false, false, false, true] (loc' := [none, none, none, none, none, none, none, none, none, none, none, none]) rfl ?_
        exact s_X_span_90 (T := T) hq
      · have hq := hq.2 hb
        refine ev_seq 1 (ip' := 90) (loc' := [some (.ref 0), some (.int x1), some (.int x2), some (.int x3), some (.int x4), some (.int x5), some (.int x6), some (.int x7), some (.int x8), some (.int x9), some (.int x10), none]) (st' := [(.int x9)]) (I1 := I) (T1 := T) rfl ?_
        refine ev_fg [false, false, false, false, false, false, false, false, false, false, false, true] (loc' := [none, none, none, none, none, none, none, none, none, none, none, none]) rfl ?_
        exact s_X_span_90 (T := T) hq
  · have hq := hq.2 hb
    refine ev_seq 6 (ip' := 51) (loc' := [some (.ref 0), some (.int x1), some (.int x2), some (.int x3), some (.int x4), some (.int x5), some (.int x6), some (.int x7), some (.int x8), some (.int x9), some (.int x10), none]) (st' := [(.int x4), (.int x3), (.int (x1 + x10)), (.ref 0)]) (I1 := I) (T1 := T) rfl ?_
    refine ev_callV rfl rfl rfl (fun I1 T1 hq => ?_) (fun x I1 T1 hq => ?_) hq
    · refine ev_seq 1 (ip' := 53) (loc' := [some (.ref 0), some (.int x1), some (.int x2), some (.int x3), some (.int x4), some (.int x5), some (.int x6), some (.int x7), some (.int x8), some (.int x9), some (.int x10), none]) (st' := [(.ref 0)]) (I1 := I1) (T1 := T1) rfl ?_
      refine ev_callI rfl rfl rfl (fun v2 I2 T2 hq => ?_) (fun x I1 T1 hq => ?_) hq
      · refine ev_seq 2 (ip' := 56) (loc' := [some (.ref 0), some (.int x1), some (.int x2), some (.int x3), some (.int x4), some (.int x5), some (.int x6), some (.int x7), some (.int x8), some (.int x9), some (.int x10), some (.int v2)]) (st' := [(.int x10)]) (I1 := I2) (T1 := T2) rfl ?_
        refine ev_br (p := x10 = 0) (a := 57) (b := 59) (st' := []) inferInstance rfl rfl (fun hb => ?_) (fun hb => ?_)
        · have hq := hq.1 hb
          refine ev_seq 2 (ip' := 62) (loc' := [some (.ref 0), some (.int x1), some (.int x2), some (.int x3), some (.int x4), some (.int x5), some (.int x6), some (.int x7), some (.int x8), some (.int x9), some (.int x10), some (.int v2)]) (st' := [(.int v2)]) (I1 := I2) (T1 := T2) rfl ?_
          refine ev_fg [true, true, true, true, true, true, true, false, true, true, true, true] (loc' := [some (.ref 0), some (.int x1), some (.int x2), some (.int x3), some (.int x4), some (.int x5), some (.int x6), none, some (.int x8), some (.int x9), some (.int x10), some (.int v2)]) rfl ?_
          exact s_X_span_62 (T := T2) hq
        · have hq := hq.2 hb
          refine ev_seq 3 (ip' := 62) (loc' := [some (.ref 0), some (.int x1), some (.int x2), some (.int x3), some (.int x4), some (.int x5), some (.int x6), some (.int x7), some (.int x8), some (.int x9), some (.int x10), some (.int v2)]) (st' := [(.int (if v2 < x7 then v2 else x7))]) (I1 := I2) (T1 := T2) rfl ?_
          refine ev_fg [true, true, true, true, true, true, true, false, true, true, true, true] (loc' := [some (.ref 0), some (.int x1), some (.int x2), some (.int x3), some (.int x4), some (.int x5), some (.int x6), none, some (.int x8), some (.int x9), some (.int x10), some (.int v2)]) rfl ?_
          exact s_X_span_62 (T := T2) hq
      · exact ⟨by decide, hq⟩
    · exact ⟨by decide, hq⟩
def t_X_span_33 (E : MEnv) (I : II) (T : TT) (Q : QQ) (x1 : Int32) (x2 : Int32) (x3 : Int32) (x4 : Int32) (x5 : Int32) (x6 : Int32) (y1 : Int32) : Prop := ev E 28 0 [some (.ref 0), some (.int y1)] [] I T (KV (fun I1 T1 => t_X_span_42 E I1 T1 Q x1 x2 x3 x4 x5 x6 0 0 0 0) (fun x I1 T1 => Q (.inr x) I1 T1))
theorem s_X_span_33 {E : MEnv} {I : II} {T : TT} {Q : QQ} {x1 : Int32} {x2 : Int32} {x3 : Int32} {x4 : Int32} {x5 : Int32} {x6 : Int32} {y1 : Int32} (hq : t_X_span_33 E I T Q x1 x2 x3 x4 x5 x6 y1) : ev E 322 33 [some (.ref 0), some (.int x1), some (.int x2), some (.int x3), some (.int x4), some (.int x5), some (.int x6), none, none, none, none, none] [(.int y1), (.ref 0)] I T Q := by
  unfold t_X_span_33 at hq
  refine ev_callV rfl rfl rfl (fun I1 T1 hq => ?_) (fun x I1 T1 hq => ?_) hq
  · refine ev_seq 8 (ip' := 42) (loc' := [some (.ref 0), some (.int x1), some (.int x2), some (.int x3), some (.int x4), some (.int x5), some (.int x6), some (.int 0), some (.int 0), some (.int 0), some (.int 0), none]) (st' := []) (I1 := I1) (T1 := T1) rfl ?_
    exact s_X_span_42 (T := T1) hq
  · exact ⟨by decide, hq⟩
def t_X_span_32 (E : MEnv) (I : II) (T : TT) (Q : QQ) (x1 : Int32) (x2 : Int32) (x3 : Int32) (x4 : Int32) (x5 : Int32) (x6 : Int32) : Prop := t_X_span_33 E I T Q x1 x2 x3 x4 x5 x6 0
theorem s_X_span_32 {E : MEnv} {I : II} {T : TT} {Q : QQ} {x1 : Int32} {x2 : Int32} {x3 : Int32} {x4 : Int32} {x5 : Int32} {x6 : Int32} (hq : t_X_span_32 E I T Q x1 x2 x3 x4 x5 x6) : ev E 322 32 [some (.ref 0), some (.int x1), some (.int x2), some (.int x3), some (.int x4), some (.int x5), some (.int x6), none, none, none, none, none] [(.ref 0)] I T Q := by
  unfold t_X_span_32 at hq
  refine ev_seq 1 (ip' := 33) (loc' := [some (.ref 0), some (.int x1), some (.int x2), some (.int x3), some (.int x4), some (.int x5), some (.int x6), none, none, none, none, none]) (st' := [(.int 0), (.ref 0)]) (I1 := I) (T1 := T) rfl ?_
  exact s_X_span_33 (T := T) hq
def t_X_span_0 (E : MEnv) (I : II) (T : TT) (Q : QQ) (x1 : Int32) (x2 : Int32) (x3 : Int32) (x4 : Int32) (x5 : Int32) (x6 : Int32) : Prop := ev E 27 0 [some (.int x2), some (.int 1), some (.int 20)] [] I T (KI (fun v1 I1 T1 => (v1 = 0 → (t_X_span_32 E I1 T1 Q x1 x2 x3 x4 x5 x6)) ∧ (¬ (v1 = 0) → (ev E 27 0 [some (.int x3), some (.int 1), some (.int 96)] [] I1 T1 (KI (fun v2 I2 T2 => (v2 = 0 → (t_X_span_32 E I2 T2 Q x1 x2 x3 x4 x5 x6)) ∧ (¬ (v2 = 0) → (ev E 27 0 [some (.int x4), some (.int 0), some (.int 16)] [] I2 T2 (KI (fun v3 I3 T3 => (v3 = 0 → (t_X_span_32 E I3 T3 Q x1 x2 x3 x4 x5 x6)) ∧ (¬ (v3 = 0) → (ev E 27 0 [some (.int x5), some (.int 0), some (.int 2)] [] I3 T3 (KI (fun v4 I4 T4 => (v4 = 0 → (t_X_span_32 E I4 T4 Q x1 x2 x3 x4 x5 x6)) ∧ (¬ (v4 = 0) → (ev E 27 0 [some (.int x6), some (.int 0), some (.int ((I4 3 5) - 1))] [] I4 T4 (KI (fun v5 I5 T5 => (v5 = 0 → (t_X_span_32 E I5 T5 Q x1 x2 x3 x4 x5 x6)) ∧ (¬ (v5 = 0) → (t_X_span_33 E I5 T5 Q x1 x2 x3 x4 x5 x6 1))) (fun _ _ _ => False))))) (fun _ _ _ => False))))) (fun _ _ _ => False))))) (fun _ _ _ => False))))) (fun _ _ _ => False))
theorem s_X_span_0 {E : MEnv} {I : II} {T : TT} {Q : QQ} {x1 : Int32} {x2 : Int32} {x3 : Int32} {x4 : Int32} {x5 : Int32} {x6 : Int32} (hq : t_X_span_0 E I T Q x1 x2 x3 x4 x5 x6) : ev E 322 0 [some (.ref 0), some (.int x1), some (.int x2), some (.int x3), some (.int x4), some (.int x5), some (.int x6), none, none, none, none, none] [] I T Q := by
  unfold t_X_span_0 at hq
  refine ev_seq 4 (ip' := 4) (loc' := [some (.ref 0), some (.int x1), some (.int x2), some (.int x3), some (.int x4), some (.int x5), some (.int x6), none, none, none, none, none]) (st' := [(.int 20), (.int 1), (.int x2), (.ref 0)]) (I1 := I) (T1 := T) rfl ?_
  refine ev_callI rfl rfl rfl (fun v1 I1 T1 hq => ?_) (fun x I1 T1 hq => ?_) hq
  · refine ev_br (p := v1 = 0) (a := 32) (b := 6) (st' := [(.ref 0)]) inferInstance rfl rfl (fun hb => ?_) (fun hb => ?_)
    · have hq := hq.1 hb
      exact s_X_span_32 (T := T1) hq
    · have hq := hq.2 hb
      refine ev_seq 3 (ip' := 9) (loc' := [some (.ref 0), some (.int x1), some (.int x2), some (.int x3), some (.int x4), some (.int x5), some (.int x6), none, none, none, none, none]) (st' := [(.int 96), (.int 1), (.int x3), (.ref 0)]) (I1 := I1) (T1 := T1) rfl ?_
      refine ev_callI rfl rfl rfl (fun v2 I2 T2 hq => ?_) (fun x I1 T1 hq => ?_) hq
      · refine ev_br (p := v2 = 0) (a := 32) (b := 11) (st' := [(.ref 0)]) inferInstance rfl rfl (fun hb => ?_) (fun hb => ?_)
        · have hq := hq.1 hb
          exact s_X_span_32 (T := T2) hq
        · have hq := hq.2 hb
          refine ev_seq 3 (ip' := 14) (loc' := [some (.ref 0), some (.int x1), some (.int x2), some (.int x3), some (.int x4), some (.int x5), some (.int x6), none, none, none, none, none]) (st' := [(.int 16), (.int 0), (.int x4), (.ref 0)]) (I1 := I2) (T1 := T2) rfl ?_
          refine ev_callI rfl rfl rfl (fun v3 I3 T3 hq => ?_) (fun x I1 T1 hq => ?_) hq
          · refine ev_br (p := v3 = 0) (a := 32) (b := 16) (st' := [(.ref 0)]) inferInstance rfl rfl (fun hb => ?_) (fun hb => ?_)
            · have hq := hq.1 hb
              exact s_X_span_32 (T := T3) hq
            · have hq := hq.2 hb
              refine ev_seq 3 (ip' := 19) (loc' := [some (.ref 0), some (.int x1), some (.int x2), some (.int x3), some (.int x4), some (.int x5), some (.int x6), none, none, none, none, none]) (st' := [(.int 2), (.int 0), (.int x5), (.ref 0)]) (I1 := I3) (T1 := T3) rfl ?_
              refine ev_callI rfl rfl rfl (fun v4 I4 T4 hq => ?_) (fun x I1 T1 hq => ?_) hq
              · refine ev_br (p := v4 = 0) (a := 32) (b := 21) (st' := [(.ref 0)]) inferInstance rfl rfl (fun hb => ?_) (fun hb => ?_)
                · have hq := hq.1 hb
                  exact s_X_span_32 (T := T4) hq
                · have hq := hq.2 hb
                  refine ev_seq 7 (ip' := 28) (loc' := [some (.ref 0), some (.int x1), some (.int x2), some (.int x3), some (.int x4), some (.int x5), some (.int x6), none, none, none, none, none]) (st' := [(.int ((I4 3 5) - 1)), (.int 0), (.int x6), (.ref 0)]) (I1 := I4) (T1 := T4) rfl ?_
                  refine ev_callI rfl rfl rfl (fun v5 I5 T5 hq => ?_) (fun x I1 T1 hq => ?_) hq
                  · refine ev_br (p := v5 = 0) (a := 32) (b := 30) (st' := [(.ref 0)]) inferInstance rfl rfl (fun hb => ?_) (fun hb => ?_)
                    · have hq := hq.1 hb
                      exact s_X_span_32 (T := T5) hq
                    · have hq := hq.2 hb
                      refine ev_seq 2 (ip' := 33) (loc' := [some (.ref 0), some (.int x1), some (.int x2), some (.int x3), some (.int x4), some (.int x5), some (.int x6), none, none, none, none, none]) (st' := [(.int 1), (.ref 0)]) (I1 := I5) (T1 := T5) rfl ?_
                      exact s_X_span_33 (T := T5) hq
                  · exact hq.elim
              · exact hq.elim
          · exact hq.elim
      · exact hq.elim
  · exact hq.elim
