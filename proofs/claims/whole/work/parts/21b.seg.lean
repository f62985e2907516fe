/-- FeltHarness$Coach.tiltNow()I -/
def t_Coach_tiltNow_30_0 (E : MEnv) (I : II) (T : TT) (Q : QQ) : Prop := ev E 121 0 [some (.ref 30), none, none, none, none] [] I T (KV (fun I1 T1 => Q (.inl (some (.int (if 0 ≤ ((I1 30 3) - (I1 30 4)) then ((I1 30 3) - (I1 30 4)) else 0 - ((I1 30 3) - (I1 30 4)))))) I1 T1) (fun x I1 T1 => Q (.inr x) I1 T1))
theorem s_Coach_tiltNow_30_0 {E : MEnv} {I : II} {T : TT} {Q : QQ} (hq : t_Coach_tiltNow_30_0 E I T Q) : ev E 183 0 [some (.ref 30)] [] I T Q := by
  unfold t_Coach_tiltNow_30_0 at hq
  refine ev_seq 1 (ip' := 1) (loc' := [some (.ref 30)]) (st' := [(.ref 30)]) (I1 := I) (T1 := T) rfl ?_
  refine ev_callV rfl rfl rfl (fun I1 T1 hq => ?_) (fun x I1 T1 hq => ?_) hq
  · refine ev_seq 6 (ip' := 8) (loc' := [some (.ref 30)]) (st' := [(.int (if 0 ≤ ((I1 30 3) - (I1 30 4)) then ((I1 30 3) - (I1 30 4)) else 0 - ((I1 30 3) - (I1 30 4))))]) (I1 := I1) (T1 := T1) rfl ?_
    exact ev_ret rfl rfl hq
  · exact ⟨by decide, hq⟩
/-- FeltHarness$Coach.tireTeam(I)V -/
def t_Coach_tireTeam_28_19 (E : MEnv) (I : II) (T : TT) (Q : QQ) (x1 : Int32) (x2 : Int32) : Prop := ev E 138 2 [some (.ref 28), some (.int x1), some (.int (x2 + 1))] [] I T Q
theorem s_Coach_tireTeam_28_19 {E : MEnv} {I : II} {T : TT} {Q : QQ} {x1 : Int32} {x2 : Int32} (hq : t_Coach_tireTeam_28_19 E I T Q x1 x2) : ev E 138 19 [some (.ref 28), some (.int x1), some (.int x2)] [] I T Q := by
  unfold t_Coach_tireTeam_28_19 at hq
  refine ev_seq 2 (ip' := 2) (loc' := [some (.ref 28), some (.int x1), some (.int (x2 + 1))]) (st' := []) (I1 := I) (T1 := T) rfl ?_
  exact hq
def t_Coach_tireTeam_28_2 (E : MEnv) (I : II) (T : TT) (Q : QQ) (x1 : Int32) (x2 : Int32) : Prop := ((I 3 5) ≤ x2 → (Q (.inl none) I T)) ∧ (¬ ((I 3 5) ≤ x2) → (ev E 108 0 [some (.ref 28), some (.int x2)] [] I T (KI (fun v1 I1 T1 => (v1 = 0 → (t_Coach_tireTeam_28_19 E I1 T1 Q x1 x2)) ∧ (¬ (v1 = 0) → (ev E 127 0 [some (.ref 28), some (.int x2)] [] I1 T1 (KI (fun v2 I2 T2 => ev E 139 0 [some (.ref 28), some (.int x2), some (.int (v2 + x1))] [] I2 T2 (KV (fun I3 T3 => t_Coach_tireTeam_28_19 E I3 T3 Q x1 x2) (fun x I1 T1 => Q (.inr x) I1 T1))) (fun x I1 T1 => Q (.inr x) I1 T1))))) (fun x I1 T1 => Q (.inr x) I1 T1))))
theorem s_Coach_tireTeam_28_2 {E : MEnv} {I : II} {T : TT} {Q : QQ} {x1 : Int32} {x2 : Int32} (hq : t_Coach_tireTeam_28_2 E I T Q x1 x2) : ev E 138 2 [some (.ref 28), some (.int x1), some (.int x2)] [] I T Q := by
  unfold t_Coach_tireTeam_28_2 at hq
  refine ev_seq 4 (ip' := 6) (loc' := [some (.ref 28), some (.int x1), some (.int x2)]) (st' := [(.int (I 3 5)), (.int x2)]) (I1 := I) (T1 := T) rfl ?_
  refine ev_br (p := (I 3 5) ≤ x2) (a := 21) (b := 7) (st' := []) inferInstance rfl rfl (fun hb => ?_) (fun hb => ?_)
  · have hq := hq.1 hb
    exact ev_ret rfl rfl hq
  · have hq := hq.2 hb
    refine ev_seq 2 (ip' := 9) (loc' := [some (.ref 28), some (.int x1), some (.int x2)]) (st' := [(.int x2), (.ref 28)]) (I1 := I) (T1 := T) rfl ?_
    refine ev_callI rfl rfl rfl (fun v1 I1 T1 hq => ?_) (fun x I1 T1 hq => ?_) hq
    · refine ev_br (p := v1 = 0) (a := 19) (b := 11) (st' := []) inferInstance rfl rfl (fun hb => ?_) (fun hb => ?_)
      · have hq := hq.1 hb
        exact s_Coach_tireTeam_28_19 (T := T1) hq
      · have hq := hq.2 hb
        refine ev_seq 4 (ip' := 15) (loc' := [some (.ref 28), some (.int x1), some (.int x2)]) (st' := [(.int x2), (.ref 28), (.int x2), (.ref 28)]) (I1 := I1) (T1 := T1) rfl ?_
        refine ev_callI rfl rfl rfl (fun v2 I2 T2 hq => ?_) (fun x I1 T1 hq => ?_) hq
        · refine ev_seq 2 (ip' := 18) (loc' := [some (.ref 28), some (.int x1), some (.int x2)]) (st' := [(.int (v2 + x1)), (.int x2), (.ref 28)]) (I1 := I2) (T1 := T2) rfl ?_
          refine ev_callV rfl rfl rfl (fun I3 T3 hq => ?_) (fun x I1 T1 hq => ?_) hq
          · exact s_Coach_tireTeam_28_19 (T := T3) hq
          · exact ⟨by decide, hq⟩
        · exact ⟨by decide, hq⟩
    · exact ⟨by decide, hq⟩
def t_Coach_tireTeam_28_0 (E : MEnv) (I : II) (T : TT) (Q : QQ) (x1 : Int32) : Prop := t_Coach_tireTeam_28_2 E I T Q x1 0
theorem s_Coach_tireTeam_28_0 {E : MEnv} {I : II} {T : TT} {Q : QQ} {x1 : Int32} (hq : t_Coach_tireTeam_28_0 E I T Q x1) : ev E 138 0 [some (.ref 28), some (.int x1), none] [] I T Q := by
  unfold t_Coach_tireTeam_28_0 at hq
  refine ev_seq 2 (ip' := 2) (loc' := [some (.ref 28), some (.int x1), some (.int 0)]) (st' := []) (I1 := I) (T1 := T) rfl ?_
  exact s_Coach_tireTeam_28_2 (T := T) hq
/-- FeltHarness$Coach.tireTeam(I)V -/
def t_Coach_tireTeam_30_19 (E : MEnv) (I : II) (T : TT) (Q : QQ) (x1 : Int32) (x2 : Int32) : Prop := ev E 138 2 [some (.ref 30), some (.int x1), some (.int (x2 + 1))] [] I T Q
theorem s_Coach_tireTeam_30_19 {E : MEnv} {I : II} {T : TT} {Q : QQ} {x1 : Int32} {x2 : Int32} (hq : t_Coach_tireTeam_30_19 E I T Q x1 x2) : ev E 138 19 [some (.ref 30), some (.int x1), some (.int x2)] [] I T Q := by
  unfold t_Coach_tireTeam_30_19 at hq
  refine ev_seq 2 (ip' := 2) (loc' := [some (.ref 30), some (.int x1), some (.int (x2 + 1))]) (st' := []) (I1 := I) (T1 := T) rfl ?_
  exact hq
def t_Coach_tireTeam_30_2 (E : MEnv) (I : II) (T : TT) (Q : QQ) (x1 : Int32) (x2 : Int32) : Prop := ((I 3 5) ≤ x2 → (Q (.inl none) I T)) ∧ (¬ ((I 3 5) ≤ x2) → (ev E 108 0 [some (.ref 30), some (.int x2)] [] I T (KI (fun v1 I1 T1 => (v1 = 0 → (t_Coach_tireTeam_30_19 E I1 T1 Q x1 x2)) ∧ (¬ (v1 = 0) → (ev E 127 0 [some (.ref 30), some (.int x2)] [] I1 T1 (KI (fun v2 I2 T2 => ev E 139 0 [some (.ref 30), some (.int x2), some (.int (v2 + x1))] [] I2 T2 (KV (fun I3 T3 => t_Coach_tireTeam_30_19 E I3 T3 Q x1 x2) (fun x I1 T1 => Q (.inr x) I1 T1))) (fun x I1 T1 => Q (.inr x) I1 T1))))) (fun x I1 T1 => Q (.inr x) I1 T1))))
theorem s_Coach_tireTeam_30_2 {E : MEnv} {I : II} {T : TT} {Q : QQ} {x1 : Int32} {x2 : Int32} (hq : t_Coach_tireTeam_30_2 E I T Q x1 x2) : ev E 138 2 [some (.ref 30), some (.int x1), some (.int x2)] [] I T Q := by
  unfold t_Coach_tireTeam_30_2 at hq
  refine ev_seq 4 (ip' := 6) (loc' := [some (.ref 30), some (.int x1), some (.int x2)]) (st' := [(.int (I 3 5)), (.int x2)]) (I1 := I) (T1 := T) rfl ?_
  refine ev_br (p := (I 3 5) ≤ x2) (a := 21) (b := 7) (st' := []) inferInstance rfl rfl (fun hb => ?_) (fun hb => ?_)
  · have hq := hq.1 hb
    exact ev_ret rfl rfl hq
  · have hq := hq.2 hb
    refine ev_seq 2 (ip' := 9) (loc' := [some (.ref 30), some (.int x1), some (.int x2)]) (st' := [(.int x2), (.ref 30)]) (I1 := I) (T1 := T) rfl ?_
    refine ev_callI rfl rfl rfl (fun v1 I1 T1 hq => ?_) (fun x I1 T1 hq => ?_) hq
    · refine ev_br (p := v1 = 0) (a := 19) (b := 11) (st' := []) inferInstance rfl rfl (fun hb => ?_) (fun hb => ?_)
      · have hq := hq.1 hb
        exact s_Coach_tireTeam_30_19 (T := T1) hq
      · have hq := hq.2 hb
        refine ev_seq 4 (ip' := 15) (loc' := [some (.ref 30), some (.int x1), some (.int x2)]) (st' := [(.int x2), (.ref 30), (.int x2), (.ref 30)]) (I1 := I1) (T1 := T1) rfl ?_
        refine ev_callI rfl rfl rfl (fun v2 I2 T2 hq => ?_) (fun x I1 T1 hq => ?_) hq
        · refine ev_seq 2 (ip' := 18) (loc' := [some (.ref 30), some (.int x1), some (.int x2)]) (st' := [(.int (v2 + x1)), (.int x2), (.ref 30)]) (I1 := I2) (T1 := T2) rfl ?_
          refine ev_callV rfl rfl rfl (fun I3 T3 hq => ?_) (fun x I1 T1 hq => ?_) hq
          · exact s_Coach_tireTeam_30_19 (T := T3) hq
          · exact ⟨by decide, hq⟩
        · exact ⟨by decide, hq⟩
    · exact ⟨by decide, hq⟩
def t_Coach_tireTeam_30_0 (E : MEnv) (I : II) (T : TT) (Q : QQ) (x1 : Int32) : Prop := t_Coach_tireTeam_30_2 E I T Q x1 0
theorem s_Coach_tireTeam_30_0 {E : MEnv} {I : II} {T : TT} {Q : QQ} {x1 : Int32} (hq : t_Coach_tireTeam_30_0 E I T Q x1) : ev E 138 0 [some (.ref 30), some (.int x1), none] [] I T Q := by
  unfold t_Coach_tireTeam_30_0 at hq
  refine ev_seq 2 (ip' := 2) (loc' := [some (.ref 30), some (.int x1), some (.int 0)]) (st' := []) (I1 := I) (T1 := T) rfl ?_
  exact s_Coach_tireTeam_30_2 (T := T) hq
/-- FeltHarness$Coach.tiredOf(I)I -/
def t_Coach_tiredOf_28_13 (E : MEnv) (I : II) (T : TT) (Q : QQ) (y0 : Int32) : Prop := Q (.inl (some (.int y0))) I T
theorem s_Coach_tiredOf_28_13 {E : MEnv} {I : II} {T : TT} {Q : QQ} {y0 : Int32} (hq : t_Coach_tiredOf_28_13 E I T Q y0) : ev E 127 13 [none, none] [(.int y0)] I T Q := by
  unfold t_Coach_tiredOf_28_13 at hq
  exact ev_ret rfl rfl hq
def t_Coach_tiredOf_28_0 (E : MEnv) (I : II) (T : TT) (Q : QQ) (x1 : Int32) : Prop := ev E 107 0 [some (.ref 3), some (.int x1)] [] I T (KI (fun v1 I1 T1 => (v1 = 0 → (t_Coach_tiredOf_28_13 E I1 T1 Q 0)) ∧ (¬ (v1 = 0) → ((¬ (16 + x1) < 0 ∧ (16 + x1).toNatClampNeg < 29) ∧ (t_Coach_tiredOf_28_13 E I1 T1 Q (I1 29 (16 + x1).toNatClampNeg))))) (fun x I1 T1 => Q (.inr x) I1 T1))
theorem s_Coach_tiredOf_28_0 {E : MEnv} {I : II} {T : TT} {Q : QQ} {x1 : Int32} (hq : t_Coach_tiredOf_28_0 E I T Q x1) : ev E 127 0 [some (.ref 28), some (.int x1)] [] I T Q := by
  unfold t_Coach_tiredOf_28_0 at hq
  refine ev_seq 3 (ip' := 3) (loc' := [some (.ref 28), some (.int x1)]) (st' := [(.int x1), (.ref 3)]) (I1 := I) (T1 := T) rfl ?_
  refine ev_callI rfl rfl rfl (fun v1 I1 T1 hq => ?_) (fun x I1 T1 hq => ?_) hq
  · refine ev_br (p := v1 = 0) (a := 12) (b := 5) (st' := []) inferInstance rfl rfl (fun hb => ?_) (fun hb => ?_)
    · have hq := hq.1 hb
      refine ev_seq 1 (ip' := 13) (loc' := [some (.ref 28), some (.int x1)]) (st' := [(.int 0)]) (I1 := I1) (T1 := T1) rfl ?_
      refine ev_fg [false, false] (loc' := [none, none]) rfl ?_
      exact s_Coach_tiredOf_28_13 (T := T1) hq
    · have hq := hq.2 hb
      refine ev_seq 5 (ip' := 10) (loc' := [some (.ref 28), some (.int x1)]) (st' := [(.int (16 + x1)), (.ref 29)]) (I1 := I1) (T1 := T1) rfl ?_
      obtain ⟨hg, hq⟩ := hq
      refine ev_iald rfl rfl hg ?_
      refine ev_seq 1 (ip' := 13) (loc' := [some (.ref 28), some (.int x1)]) (st' := [(.int (I1 29 (16 + x1).toNatClampNeg))]) (I1 := I1) (T1 := T1) rfl ?_
      refine ev_fg [false, false] (loc' := [none, none]) rfl ?_
      exact s_Coach_tiredOf_28_13 (T := T1) hq
  · exact ⟨by decide, hq⟩
/-- FeltHarness$Coach.tiredOf(I)I -/
def t_Coach_tiredOf_30_13 (E : MEnv) (I : II) (T : TT) (Q : QQ) (y0 : Int32) : Prop := Q (.inl (some (.int y0))) I T
theorem s_Coach_tiredOf_30_13 {E : MEnv} {I : II} {T : TT} {Q : QQ} {y0 : Int32} (hq : t_Coach_tiredOf_30_13 E I T Q y0) : ev E 127 13 [none, none] [(.int y0)] I T Q := by
  unfold t_Coach_tiredOf_30_13 at hq
  exact ev_ret rfl rfl hq
def t_Coach_tiredOf_30_0 (E : MEnv) (I : II) (T : TT) (Q : QQ) (x1 : Int32) : Prop := ev E 107 0 [some (.ref 3), some (.int x1)] [] I T (KI (fun v1 I1 T1 => (v1 = 0 → (t_Coach_tiredOf_30_13 E I1 T1 Q 0)) ∧ (¬ (v1 = 0) → ((¬ (16 + x1) < 0 ∧ (16 + x1).toNatClampNeg < 29) ∧ (t_Coach_tiredOf_30_13 E I1 T1 Q (I1 31 (16 + x1).toNatClampNeg))))) (fun x I1 T1 => Q (.inr x) I1 T1))
theorem s_Coach_tiredOf_30_0 {E : MEnv} {I : II} {T : TT} {Q : QQ} {x1 : Int32} (hq : t_Coach_tiredOf_30_0 E I T Q x1) : ev E 127 0 [some (.ref 30), some (.int x1)] [] I T Q := by
  unfold t_Coach_tiredOf_30_0 at hq
  refine ev_seq 3 (ip' := 3) (loc' := [some (.ref 30), some (.int x1)]) (st' := [(.int x1), (.ref 3)]) (I1 := I) (T1 := T) rfl ?_
  refine ev_callI rfl rfl rfl (fun v1 I1 T1 hq => ?_) (fun x I1 T1 hq => ?_) hq
  · refine ev_br (p := v1 = 0) (a := 12) (b := 5) (st' := []) inferInstance rfl rfl (fun hb => ?_) (fun hb => ?_)
    · have hq := hq.1 hb
      refine ev_seq 1 (ip' := 13) (loc' := [some (.ref 30), some (.int x1)]) (st' := [(.int 0)]) (I1 := I1) (T1 := T1) rfl ?_
      refine ev_fg [false, false] (loc' := [none, none]) rfl ?_
      exact s_Coach_tiredOf_30_13 (T := T1) hq
    · have hq := hq.2 hb
      refine ev_seq 5 (ip' := 10) (loc' := [some (.ref 30), some (.int x1)]) (st' := [(.int (16 + x1)), (.ref 31)]) (I1 := I1) (T1 := T1) rfl ?_
      obtain ⟨hg, hq⟩ := hq
      refine ev_iald rfl rfl hg ?_
      refine ev_seq 1 (ip' := 13) (loc' := [some (.ref 30), some (.int x1)]) (st' := [(.int (I1 31 (16 + x1).toNatClampNeg))]) (I1 := I1) (T1 := T1) rfl ?_
      refine ev_fg [false, false] (loc' := [none, none]) rfl ?_
      exact s_Coach_tiredOf_30_13 (T := T1) hq
  · exact ⟨by decide, hq⟩
/-- FeltHarness$Coach.weigh()V -/
def t_Coach_weigh_28_46 (E : MEnv) (I : II) (T : TT) (Q : QQ) (x1 : Int32) (x2 : Int32) : Prop := ev E 121 11 [some (.ref 28), some (.int x1), some (.int (x2 + 1)), none, none] [] I T Q
theorem s_Coach_weigh_28_46 {E : MEnv} {I : II} {T : TT} {Q : QQ} {x1 : Int32} {x2 : Int32} (hq : t_Coach_weigh_28_46 E I T Q x1 x2) : ev E 121 46 [some (.ref 28), some (.int x1), some (.int x2), none, none] [] I T Q := by
  unfold t_Coach_weigh_28_46 at hq
  refine ev_seq 2 (ip' := 11) (loc' := [some (.ref 28), some (.int x1), some (.int (x2 + 1)), none, none]) (st' := []) (I1 := I) (T1 := T) rfl ?_
  exact hq
def t_Coach_weigh_28_11 (E : MEnv) (I : II) (T : TT) (Q : QQ) (x1 : Int32) (x2 : Int32) : Prop := ((I 3 5) ≤ x2 → (Q (.inl none) I T)) ∧ (¬ ((I 3 5) ≤ x2) → (ev E 109 0 [some (.ref 28), some (.int x2)] [] I T (KI (fun v1 I1 T1 => (v1 = (-1) → (t_Coach_weigh_28_46 E I1 T1 Q x1 x2)) ∧ (¬ (v1 = (-1)) → (ev E 124 0 [some (.ref 28), some (.int x2), some (.int v1), some (.int x1)] [] I1 T1 (KI (fun v2 I2 T2 => ((v1 &&& 1) = 0 → (t_Coach_weigh_28_46 E (m_up I2 28 3 ((I2 28 3) + v2)) T2 Q x1 x2)) ∧ (¬ ((v1 &&& 1) = 0) → (t_Coach_weigh_28_46 E (m_up I2 28 4 ((I2 28 4) + v2)) T2 Q x1 x2))) (fun x I1 T1 => Q (.inr x) I1 T1))))) (fun x I1 T1 => Q (.inr x) I1 T1))))
theorem s_Coach_weigh_28_11 {E : MEnv} {I : II} {T : TT} {Q : QQ} {x1 : Int32} {x2 : Int32} (hq : t_Coach_weigh_28_11 E I T Q x1 x2) : ev E 121 11 [some (.ref 28), some (.int x1), some (.int x2), none, none] [] I T Q := by
  unfold t_Coach_weigh_28_11 at hq
  refine ev_seq 4 (ip' := 15) (loc' := [some (.ref 28), some (.int x1), some (.int x2), none, none]) (st' := [(.int (I 3 5)), (.int x2)]) (I1 := I) (T1 := T) rfl ?_
  refine ev_br (p := (I 3 5) ≤ x2) (a := 48) (b := 16) (st' := []) inferInstance rfl rfl (fun hb => ?_) (fun hb => ?_)
  · have hq := hq.1 hb
    exact ev_ret rfl rfl hq
  · have hq := hq.2 hb
    refine ev_seq 2 (ip' := 18) (loc' := [some (.ref 28), some (.int x1), some (.int x2), none, none]) (st' := [(.int x2), (.ref 28)]) (I1 := I) (T1 := T) rfl ?_
    refine ev_callI rfl rfl rfl (fun v1 I1 T1 hq => ?_) (fun x I1 T1 hq => ?_) hq
    · refine ev_seq 3 (ip' := 22) (loc' := [some (.ref 28), some (.int x1), some (.int x2), some (.int v1), none]) (st' := [(.int (-1)), (.int v1)]) (I1 := I1) (T1 := T1) rfl ?_
      refine ev_br (p := v1 = (-1)) (a := 46) (b := 23) (st' := []) inferInstance rfl rfl (fun hb => ?_) (fun hb => ?_)
      · have hq := hq.1 hb
        refine ev_fg [true, true, true, false, true] (loc' := [some (.ref 28), some (.int x1), some (.int x2), none, none]) rfl ?_
        exact s_Coach_weigh_28_46 (T := T1) hq
      · have hq := hq.2 hb
        refine ev_seq 4 (ip' := 27) (loc' := [some (.ref 28), some (.int x1), some (.int x2), some (.int v1), none]) (st' := [(.int x1), (.int v1), (.int x2), (.ref 28)]) (I1 := I1) (T1 := T1) rfl ?_
        refine ev_callI rfl rfl rfl (fun v2 I2 T2 hq => ?_) (fun x I1 T1 hq => ?_) hq
        · refine ev_seq 4 (ip' := 32) (loc' := [some (.ref 28), some (.int x1), some (.int x2), some (.int v1), some (.int v2)]) (st' := [(.int (v1 &&& 1))]) (I1 := I2) (T1 := T2) rfl ?_
          refine ev_br (p := (v1 &&& 1) = 0) (a := 33) (b := 40) (st' := []) inferInstance rfl rfl (fun hb => ?_) (fun hb => ?_)
          · have hq := hq.1 hb
            refine ev_seq 7 (ip' := 46) (loc' := [some (.ref 28), some (.int x1), some (.int x2), some (.int v1), some (.int v2)]) (st' := []) (I1 := m_up I2 28 3 ((I2 28 3) + v2)) (T1 := T2) rfl ?_
            refine ev_fg [true, true, true, false, false] (loc' := [some (.ref 28), some (.int x1), some (.int x2), none, none]) rfl ?_
            exact s_Coach_weigh_28_46 (T := T2) hq
          · have hq := hq.2 hb
            refine ev_seq 6 (ip' := 46) (loc' := [some (.ref 28), some (.int x1), some (.int x2), some (.int v1), some (.int v2)]) (st' := []) (I1 := m_up I2 28 4 ((I2 28 4) + v2)) (T1 := T2) rfl ?_
            refine ev_fg [true, true, true, false, false] (loc' := [some (.ref 28), some (.int x1), some (.int x2), none, none]) rfl ?_
            exact s_Coach_weigh_28_46 (T := T2) hq
        · exact ⟨by decide, hq⟩
    · exact ⟨by decide, hq⟩
def t_Coach_weigh_28_0 (E : MEnv) (I : II) (T : TT) (Q : QQ) : Prop := ev E 122 0 [some (.ref 28)] [] I T (KI (fun v1 I1 T1 => t_Coach_weigh_28_11 E (m_up (m_up I1 28 3 0) 28 4 0) T1 Q v1 0) (fun x I1 T1 => Q (.inr x) I1 T1))
theorem s_Coach_weigh_28_0 {E : MEnv} {I : II} {T : TT} {Q : QQ} (hq : t_Coach_weigh_28_0 E I T Q) : ev E 121 0 [some (.ref 28), none, none, none, none] [] I T Q := by
  unfold t_Coach_weigh_28_0 at hq
  refine ev_seq 1 (ip' := 1) (loc' := [some (.ref 28), none, none, none, none]) (st' := [(.ref 28)]) (I1 := I) (T1 := T) rfl ?_
  refine ev_callI rfl rfl rfl (fun v1 I1 T1 hq => ?_) (fun x I1 T1 hq => ?_) hq
  · refine ev_seq 9 (ip' := 11) (loc' := [some (.ref 28), some (.int v1), some (.int 0), none, none]) (st' := []) (I1 := m_up (m_up I1 28 3 0) 28 4 0) (T1 := T1) rfl ?_
    exact s_Coach_weigh_28_11 (T := T1) hq
  · exact ⟨by decide, hq⟩
/-- FeltHarness$Coach.weigh()V -/
def t_Coach_weigh_30_46 (E : MEnv) (I : II) (T : TT) (Q : QQ) (x1 : Int32) (x2 : Int32) : Prop := ev E 121 11 [some (.ref 30), some (.int x1), some (.int (x2 + 1)), none, none] [] I T Q
theorem s_Coach_weigh_30_46 {E : MEnv} {I : II} {T : TT} {Q : QQ} {x1 : Int32} {x2 : Int32} (hq : t_Coach_weigh_30_46 E I T Q x1 x2) : ev E 121 46 [some (.ref 30), some (.int x1), some (.int x2), none, none] [] I T Q := by
  unfold t_Coach_weigh_30_46 at hq
  refine ev_seq 2 (ip' := 11) (loc' := [some (.ref 30), some (.int x1), some (.int (x2 + 1)), none, none]) (st' := []) (I1 := I) (T1 := T) rfl ?_
  exact hq
def t_Coach_weigh_30_11 (E : MEnv) (I : II) (T : TT) (Q : QQ) (x1 : Int32) (x2 : Int32) : Prop := ((I 3 5) ≤ x2 → (Q (.inl none) I T)) ∧ (¬ ((I 3 5) ≤ x2) → (ev E 109 0 [some (.ref 30), some (.int x2)] [] I T (KI (fun v1 I1 T1 => (v1 = (-1) → (t_Coach_weigh_30_46 E I1 T1 Q x1 x2)) ∧ (¬ (v1 = (-1)) → (ev E 124 0 [some (.ref 30), some (.int x2), some (.int v1), some (.int x1)] [] I1 T1 (KI (fun v2 I2 T2 => ((v1 &&& 1) = 0 → (t_Coach_weigh_30_46 E (m_up I2 30 3 ((I2 30 3) + v2)) T2 Q x1 x2)) ∧ (¬ ((v1 &&& 1) = 0) → (t_Coach_weigh_30_46 E (m_up I2 30 4 ((I2 30 4) + v2)) T2 Q x1 x2))) (fun x I1 T1 => Q (.inr x) I1 T1))))) (fun x I1 T1 => Q (.inr x) I1 T1))))
theorem s_Coach_weigh_30_11 {E : MEnv} {I : II} {T : TT} {Q : QQ} {x1 : Int32} {x2 : Int32} (hq : t_Coach_weigh_30_11 E I T Q x1 x2) : ev E 121 11 [some (.ref 30), some (.int x1), some (.int x2), none, none] [] I T Q := by
  unfold t_Coach_weigh_30_11 at hq
  refine ev_seq 4 (ip' := 15) (loc' := [some (.ref 30), some (.int x1), some (.int x2), none, none]) (st' := [(.int (I 3 5)), (.int x2)]) (I1 := I) (T1 := T) rfl ?_
  refine ev_br (p := (I 3 5) ≤ x2) (a := 48) (b := 16) (st' := []) inferInstance rfl rfl (fun hb => ?_) (fun hb => ?_)
  · have hq := hq.1 hb
    exact ev_ret rfl rfl hq
  · have hq := hq.2 hb
    refine ev_seq 2 (ip' := 18) (loc' := [some (.ref 30), some (.int x1), some (.int x2), none, none]) (st' := [(.int x2), (.ref 30)]) (I1 := I) (T1 := T) rfl ?_
    refine ev_callI rfl rfl rfl (fun v1 I1 T1 hq => ?_) (fun x I1 T1 hq => ?_) hq
    · refine ev_seq 3 (ip' := 22) (loc' := [some (.ref 30), some (.int x1), some (.int x2), some (.int v1), none]) (st' := [(.int (-1)), (.int v1)]) (I1 := I1) (T1 := T1) rfl ?_
      refine ev_br (p := v1 = (-1)) (a := 46) (b := 23) (st' := []) inferInstance rfl rfl (fun hb => ?_) (fun hb => ?_)
      · have hq := hq.1 hb
        refine ev_fg [true, true, true, false, true] (loc' := [some (.ref 30), some (.int x1), some (.int x2), none, none]) rfl ?_
        exact s_Coach_weigh_30_46 (T := T1) hq
      · have hq := hq.2 hb
        refine ev_seq 4 (ip' := 27) (loc' := [some (.ref 30), some (.int x1), some (.int x2), some (.int v1), none]) (st' := [(.int x1), (.int v1), (.int x2), (.ref 30)]) (I1 := I1) (T1 := T1) rfl ?_
        refine ev_callI rfl rfl rfl (fun v2 I2 T2 hq => ?_) (fun x I1 T1 hq => ?_) hq
        · refine ev_seq 4 (ip' := 32) (loc' := [some (.ref 30), some (.int x1), some (.int x2), some (.int v1), some (.int v2)]) (st' := [(.int (v1 &&& 1))]) (I1 := I2) (T1 := T2) rfl ?_
          refine ev_br (p := (v1 &&& 1) = 0) (a := 33) (b := 40) (st' := []) inferInstance rfl rfl (fun hb => ?_) (fun hb => ?_)
          · have hq := hq.1 hb
            refine ev_seq 7 (ip' := 46) (loc' := [some (.ref 30), some (.int x1), some (.int x2), some (.int v1), some (.int v2)]) (st' := []) (I1 := m_up I2 30 3 ((I2 30 3) + v2)) (T1 := T2) rfl ?_
            refine ev_fg [true, true, true, false, false] (loc' := [some (.ref 30), some (.int x1), some (.int x2), none, none]) rfl ?_
            exact s_Coach_weigh_30_46 (T := T2) hq
          · have hq := hq.2 hb
            refine ev_seq 6 (ip' := 46) (loc' := [some (.ref 30), some (.int x1), some (.int x2), some (.int v1), some (.int v2)]) (st' := []) (I1 := m_up I2 30 4 ((I2 30 4) + v2)) (T1 := T2) rfl ?_
            refine ev_fg [true, true, true, false, false] (loc' := [some (.ref 30), some (.int x1), some (.int x2), none, none]) rfl ?_
            exact s_Coach_weigh_30_46 (T := T2) hq
        · exact ⟨by decide, hq⟩
    · exact ⟨by decide, hq⟩
def t_Coach_weigh_30_0 (E : MEnv) (I : II) (T : TT) (Q : QQ) : Prop := ev E 122 0 [some (.ref 30)] [] I T (KI (fun v1 I1 T1 => t_Coach_weigh_30_11 E (m_up (m_up I1 30 3 0) 30 4 0) T1 Q v1 0) (fun x I1 T1 => Q (.inr x) I1 T1))
theorem s_Coach_weigh_30_0 {E : MEnv} {I : II} {T : TT} {Q : QQ} (hq : t_Coach_weigh_30_0 E I T Q) : ev E 121 0 [some (.ref 30), none, none, none, none] [] I T Q := by
  unfold t_Coach_weigh_30_0 at hq
  refine ev_seq 1 (ip' := 1) (loc' := [some (.ref 30), none, none, none, none]) (st' := [(.ref 30)]) (I1 := I) (T1 := T) rfl ?_
  refine ev_callI rfl rfl rfl (fun v1 I1 T1 hq => ?_) (fun x I1 T1 hq => ?_) hq
  · refine ev_seq 9 (ip' := 11) (loc' := [some (.ref 30), some (.int v1), some (.int 0), none, none]) (st' := []) (I1 := m_up (m_up I1 30 3 0) 30 4 0) (T1 := T1) rfl ?_
    exact s_Coach_weigh_30_11 (T := T1) hq
  · exact ⟨by decide, hq⟩
/-- FeltHarness$Coach.whoIsAt(I)I -/
def t_Coach_whoIsAt_28_2 (E : MEnv) (I : II) (T : TT) (Q : QQ) (x1 : Int32) (x2 : Int32) : Prop := ((I 3 5) ≤ x2 → (Q (.inl (some (.int (-1)))) I T)) ∧ (¬ ((I 3 5) ≤ x2) → (ev E 109 0 [some (.ref 28), some (.int x2)] [] I T (KI (fun v1 I1 T1 => (v1 = x1 → (Q (.inl (some (.int x2))) I1 T1)) ∧ (¬ (v1 = x1) → (ev E 110 2 [some (.ref 28), some (.int x1), some (.int (x2 + 1))] [] I1 T1 Q))) (fun x I1 T1 => Q (.inr x) I1 T1))))
theorem s_Coach_whoIsAt_28_2 {E : MEnv} {I : II} {T : TT} {Q : QQ} {x1 : Int32} {x2 : Int32} (hq : t_Coach_whoIsAt_28_2 E I T Q x1 x2) : ev E 110 2 [some (.ref 28), some (.int x1), some (.int x2)] [] I T Q := by
  unfold t_Coach_whoIsAt_28_2 at hq
  refine ev_seq 4 (ip' := 6) (loc' := [some (.ref 28), some (.int x1), some (.int x2)]) (st' := [(.int (I 3 5)), (.int x2)]) (I1 := I) (T1 := T) rfl ?_
  refine ev_br (p := (I 3 5) ≤ x2) (a := 16) (b := 7) (st' := []) inferInstance rfl rfl (fun hb => ?_) (fun hb => ?_)
  · have hq := hq.1 hb
    refine ev_seq 1 (ip' := 17) (loc' := [some (.ref 28), some (.int x1), some (.int x2)]) (st' := [(.int (-1))]) (I1 := I) (T1 := T) rfl ?_
    exact ev_ret rfl rfl hq
  · have hq := hq.2 hb
    refine ev_seq 2 (ip' := 9) (loc' := [some (.ref 28), some (.int x1), some (.int x2)]) (st' := [(.int x2), (.ref 28)]) (I1 := I) (T1 := T) rfl ?_
    refine ev_callI rfl rfl rfl (fun v1 I1 T1 hq => ?_) (fun x I1 T1 hq => ?_) hq
    · refine ev_seq 1 (ip' := 11) (loc' := [some (.ref 28), some (.int x1), some (.int x2)]) (st' := [(.int x1), (.int v1)]) (I1 := I1) (T1 := T1) rfl ?_
      refine ev_br (p := v1 = x1) (a := 12) (b := 14) (st' := []) inferInstance rfl rfl (fun hb => ?_) (fun hb => ?_)
      · have hq := hq.1 hb
        refine ev_seq 1 (ip' := 13) (loc' := [some (.ref 28), some (.int x1), some (.int x2)]) (st' := [(.int x2)]) (I1 := I1) (T1 := T1) rfl ?_
        exact ev_ret rfl rfl hq
      · have hq := hq.2 hb
        refine ev_seq 2 (ip' := 2) (loc' := [some (.ref 28), some (.int x1), some (.int (x2 + 1))]) (st' := []) (I1 := I1) (T1 := T1) rfl ?_
        exact hq
    · exact ⟨by decide, hq⟩
def t_Coach_whoIsAt_28_0 (E : MEnv) (I : II) (T : TT) (Q : QQ) (x1 : Int32) : Prop := t_Coach_whoIsAt_28_2 E I T Q x1 0
theorem s_Coach_whoIsAt_28_0 {E : MEnv} {I : II} {T : TT} {Q : QQ} {x1 : Int32} (hq : t_Coach_whoIsAt_28_0 E I T Q x1) : ev E 110 0 [some (.ref 28), some (.int x1), none] [] I T Q := by
  unfold t_Coach_whoIsAt_28_0 at hq
  refine ev_seq 2 (ip' := 2) (loc' := [some (.ref 28), some (.int x1), some (.int 0)]) (st' := []) (I1 := I) (T1 := T) rfl ?_
  exact s_Coach_whoIsAt_28_2 (T := T) hq
/-- FeltHarness$Coach.whoIsAt(I)I -/
def t_Coach_whoIsAt_30_2 (E : MEnv) (I : II) (T : TT) (Q : QQ) (x1 : Int32) (x2 : Int32) : Prop := ((I 3 5) ≤ x2 → (Q (.inl (some (.int (-1)))) I T)) ∧ (¬ ((I 3 5) ≤ x2) → (ev E 109 0 [some (.ref 30), some (.int x2)] [] I T (KI (fun v1 I1 T1 => (v1 = x1 → (Q (.inl (some (.int x2))) I1 T1)) ∧ (¬ (v1 = x1) → (ev E 110 2 [some (.ref 30), some (.int x1), some (.int (x2 + 1))] [] I1 T1 Q))) (fun x I1 T1 => Q (.inr x) I1 T1))))
theorem s_Coach_whoIsAt_30_2 {E : MEnv} {I : II} {T : TT} {Q : QQ} {x1 : Int32} {x2 : Int32} (hq : t_Coach_whoIsAt_30_2 E I T Q x1 x2) : ev E 110 2 [some (.ref 30), some (.int x1), some (.int x2)] [] I T Q := by
  unfold t_Coach_whoIsAt_30_2 at hq
  refine ev_seq 4 (ip' := 6) (loc' := [some (.ref 30), some (.int x1), some (.int x2)]) (st' := [(.int (I 3 5)), (.int x2)]) (I1 := I) (T1 := T) rfl ?_
  refine ev_br (p := (I 3 5) ≤ x2) (a := 16) (b := 7) (st' := []) inferInstance rfl rfl (fun hb => ?_) (fun hb => ?_)
  · have hq := hq.1 hb
    refine ev_seq 1 (ip' := 17) (loc' := [some (.ref 30), some (.int x1), some (.int x2)]) (st' := [(.int (-1))]) (I1 := I) (T1 := T) rfl ?_
    exact ev_ret rfl rfl hq
  · have hq := hq.2 hb
    refine ev_seq 2 (ip' := 9) (loc' := [some (.ref 30), some (.int x1), some (.int x2)]) (st' := [(.int x2), (.ref 30)]) (I1 := I) (T1 := T) rfl ?_
    refine ev_callI rfl rfl rfl (fun v1 I1 T1 hq => ?_) (fun x I1 T1 hq => ?_) hq
    · refine ev_seq 1 (ip' := 11) (loc' := [some (.ref 30), some (.int x1), some (.int x2)]) (st' := [(.int x1), (.int v1)]) (I1 := I1) (T1 := T1) rfl ?_
      refine ev_br (p := v1 = x1) (a := 12) (b := 14) (st' := []) inferInstance rfl rfl (fun hb => ?_) (fun hb => ?_)
      · have hq := hq.1 hb
        refine ev_seq 1 (ip' := 13) (loc' := [some (.ref 30), some (.int x1), some (.int x2)]) (st' := [(.int x2)]) (I1 := I1) (T1 := T1) rfl ?_
        exact ev_ret rfl rfl hq
      · have hq := hq.2 hb
        refine ev_seq 2 (ip' := 2) (loc' := [some (.ref 30), some (.int x1), some (.int (x2 + 1))]) (st' := []) (I1 := I1) (T1 := T1) rfl ?_
        exact hq
    · exact ⟨by decide, hq⟩
def t_Coach_whoIsAt_30_0 (E : MEnv) (I : II) (T : TT) (Q : QQ) (x1 : Int32) : Prop := t_Coach_whoIsAt_30_2 E I T Q x1 0
theorem s_Coach_whoIsAt_30_0 {E : MEnv} {I : II} {T : TT} {Q : QQ} {x1 : Int32} (hq : t_Coach_whoIsAt_30_0 E I T Q x1) : ev E 110 0 [some (.ref 30), some (.int x1), none] [] I T Q := by
  unfold t_Coach_whoIsAt_30_0 at hq
  refine ev_seq 2 (ip' := 2) (loc' := [some (.ref 30), some (.int x1), some (.int 0)]) (st' := []) (I1 := I) (T1 := T) rfl ?_
  exact s_Coach_whoIsAt_30_2 (T := T) hq
/-- FeltHarness$Guess.gather(LFeltHarness$Coach;LFeltHarness$Coach;LFeltHarness$Book;)V -/
def t_Guess_gather_28_30_48 (E : MEnv) (I : II) (T : TT) (Q : QQ) (x4 : Int32) (x5 : Int32) : Prop := ev E 249 15 [some (.ref 44), some (.ref 28), some (.ref 30), some (.ref 20), some (.int x4), some (.int (x5 + 1))] [] I T Q
theorem s_Guess_gather_28_30_48 {E : MEnv} {I : II} {T : TT} {Q : QQ} {x4 : Int32} {x5 : Int32} (hq : t_Guess_gather_28_30_48 E I T Q x4 x5) : ev E 249 48 [some (.ref 44), some (.ref 28), some (.ref 30), some (.ref 20), some (.int x4), some (.int x5)] [] I T Q := by
  unfold t_Guess_gather_28_30_48 at hq
  refine ev_seq 2 (ip' := 15) (loc' := [some (.ref 44), some (.ref 28), some (.ref 30), some (.ref 20), some (.int x4), some (.int (x5 + 1))]) (st' := []) (I1 := I) (T1 := T) rfl ?_
  exact hq
def t_Guess_gather_28_30_36 (E : MEnv) (I : II) (T : TT) (Q : QQ) (x4 : Int32) (x5 : Int32) : Prop := ev E 250 0 [some (.ref 20), some (.ref 30), none] [] I T (KI (fun v1 I1 T1 => (v1 = 0 → (t_Guess_gather_28_30_48 E I1 T1 Q x4 x5)) ∧ (¬ (v1 = 0) → (ev E 251 0 [some (.ref 44), some (.ref 30), some (.int ((10 * x4) + x5)), none] [] I1 T1 (KV (fun I2 T2 => t_Guess_gather_28_30_48 E I2 T2 Q x4 x5) (fun x I1 T1 => Q (.inr x) I1 T1))))) (fun x I1 T1 => Q (.inr x) I1 T1))
theorem s_Guess_gather_28_30_36 {E : MEnv} {I : II} {T : TT} {Q : QQ} {x4 : Int32} {x5 : Int32} (hq : t_Guess_gather_28_30_36 E I T Q x4 x5) : ev E 249 36 [some (.ref 44), some (.ref 28), some (.ref 30), some (.ref 20), some (.int x4), some (.int x5)] [] I T Q := by
  unfold t_Guess_gather_28_30_36 at hq
  refine ev_seq 2 (ip' := 38) (loc' := [some (.ref 44), some (.ref 28), some (.ref 30), some (.ref 20), some (.int x4), some (.int x5)]) (st' := [(.ref 30), (.ref 20)]) (I1 := I) (T1 := T) rfl ?_
  refine ev_callI rfl rfl rfl (fun v1 I1 T1 hq => ?_) (fun x I1 T1 hq => ?_) hq
  · refine ev_br (p := v1 = 0) (a := 48) (b := 40) (st' := []) inferInstance rfl rfl (fun hb => ?_) (fun hb => ?_)
    · have hq := hq.1 hb
      exact s_Guess_gather_28_30_48 (T := T1) hq
    · have hq := hq.2 hb
      refine ev_seq 7 (ip' := 47) (loc' := [some (.ref 44), some (.ref 28), some (.ref 30), some (.ref 20), some (.int x4), some (.int x5)]) (st' := [(.int ((10 * x4) + x5)), (.ref 30), (.ref 44)]) (I1 := I1) (T1 := T1) rfl ?_
      refine ev_callV rfl rfl rfl (fun I2 T2 hq => ?_) (fun x I1 T1 hq => ?_) hq
      · exact s_Guess_gather_28_30_48 (T := T2) hq
      · exact ⟨by decide, hq⟩
  · exact ⟨by decide, hq⟩
def t_Guess_gather_28_30_15 (E : MEnv) (I : II) (T : TT) (Q : QQ) (x4 : Int32) (x5 : Int32) : Prop := ((I 3 5) ≤ x5 → (ev E 249 8 [some (.ref 44), some (.ref 28), some (.ref 30), some (.ref 20), some (.int (x4 + 1)), none] [] I T Q)) ∧ (¬ ((I 3 5) ≤ x5) → (ev E 108 0 [some (.ref 28), some (.int x5)] [] I T (KI (fun v1 I1 T1 => (v1 = 0 → (t_Guess_gather_28_30_48 E I1 T1 Q x4 x5)) ∧ (¬ (v1 = 0) → (ev E 212 0 [some (.ref 30), some (.ref 28)] [] I1 T1 (KV (fun I2 T2 => ev E 118 0 [some (.ref 30), some (.int x5)] [] I2 T2 (KV (fun I3 T3 => ev E 112 0 [some (.ref 30), none, none] [] I3 T3 (KI (fun v4 I4 T4 => (v4 = 0 → (t_Guess_gather_28_30_36 E I4 T4 Q x4 x5)) ∧ (¬ (v4 = 0) → (ev E 120 0 [some (.ref 30), some (.int x4), none, none, none] [] I4 T4 (KV (fun I5 T5 => t_Guess_gather_28_30_36 E I5 T5 Q x4 x5) (fun x I1 T1 => Q (.inr x) I1 T1))))) (fun x I1 T1 => Q (.inr x) I1 T1))) (fun x I1 T1 => Q (.inr x) I1 T1))) (fun x I1 T1 => Q (.inr x) I1 T1))))) (fun x I1 T1 => Q (.inr x) I1 T1))))
theorem s_Guess_gather_28_30_15 {E : MEnv} {I : II} {T : TT} {Q : QQ} {x4 : Int32} {x5 : Int32} (hq : t_Guess_gather_28_30_15 E I T Q x4 x5) : ev E 249 15 [some (.ref 44), some (.ref 28), some (.ref 30), some (.ref 20), some (.int x4), some (.int x5)] [] I T Q := by
  unfold t_Guess_gather_28_30_15 at hq
  refine ev_seq 4 (ip' := 19) (loc' := [some (.ref 44), some (.ref 28), some (.ref 30), some (.ref 20), some (.int x4), some (.int x5)]) (st' := [(.int (I 3 5)), (.int x5)]) (I1 := I) (T1 := T) rfl ?_
  refine ev_br (p := (I 3 5) ≤ x5) (a := 50) (b := 20) (st' := []) inferInstance rfl rfl (fun hb => ?_) (fun hb => ?_)
  · have hq := hq.1 hb
    refine ev_seq 2 (ip' := 8) (loc' := [some (.ref 44), some (.ref 28), some (.ref 30), some (.ref 20), some (.int (x4 + 1)), some (.int x5)]) (st' := []) (I1 := I) (T1 := T) rfl ?_
    refine ev_fg [true, true, true, true, true, false] (loc' := [some (.ref 44), some (.ref 28), some (.ref 30), some (.ref 20), some (.int (x4 + 1)), none]) rfl ?_
    exact hq
  · have hq := hq.2 hb
    refine ev_seq 2 (ip' := 22) (loc' := [some (.ref 44), some (.ref 28), some (.ref 30), some (.ref 20), some (.int x4), some (.int x5)]) (st' := [(.int x5), (.ref 28)]) (I1 := I) (T1 := T) rfl ?_
    refine ev_callI rfl rfl rfl (fun v1 I1 T1 hq => ?_) (fun x I1 T1 hq => ?_) hq
    · refine ev_br (p := v1 = 0) (a := 48) (b := 24) (st' := []) inferInstance rfl rfl (fun hb => ?_) (fun hb => ?_)
      · have hq := hq.1 hb
        exact s_Guess_gather_28_30_48 (T := T1) hq
      · have hq := hq.2 hb
        refine ev_seq 2 (ip' := 26) (loc' := [some (.ref 44), some (.ref 28), some (.ref 30), some (.ref 20), some (.int x4), some (.int x5)]) (st' := [(.ref 28), (.ref 30)]) (I1 := I1) (T1 := T1) rfl ?_
        refine ev_callV rfl rfl rfl (fun I2 T2 hq => ?_) (fun x I1 T1 hq => ?_) hq
        · refine ev_seq 2 (ip' := 29) (loc' := [some (.ref 44), some (.ref 28), some (.ref 30), some (.ref 20), some (.int x4), some (.int x5)]) (st' := [(.int x5), (.ref 30)]) (I1 := I2) (T1 := T2) rfl ?_
          refine ev_callV rfl rfl rfl (fun I3 T3 hq => ?_) (fun x I1 T1 hq => ?_) hq
          · refine ev_seq 1 (ip' := 31) (loc' := [some (.ref 44), some (.ref 28), some (.ref 30), some (.ref 20), some (.int x4), some (.int x5)]) (st' := [(.ref 30)]) (I1 := I3) (T1 := T3) rfl ?_
            refine ev_callI rfl rfl rfl (fun v4 I4 T4 hq => ?_) (fun x I1 T1 hq => ?_) hq
            · refine ev_br (p := v4 = 0) (a := 36) (b := 33) (st' := []) inferInstance rfl rfl (fun hb => ?_) (fun hb => ?_)
              · have hq := hq.1 hb
                exact s_Guess_gather_28_30_36 (T := T4) hq
              · have hq := hq.2 hb
                refine ev_seq 2 (ip' := 35) (loc' := [some (.ref 44), some (.ref 28), some (.ref 30), some (.ref 20), some (.int x4), some (.int x5)]) (st' := [(.int x4), (.ref 30)]) (I1 := I4) (T1 := T4) rfl ?_
                refine ev_callV rfl rfl rfl (fun I5 T5 hq => ?_) (fun x I1 T1 hq => ?_) hq
                · exact s_Guess_gather_28_30_36 (T := T5) hq
                · exact ⟨by decide, hq⟩
            · exact ⟨by decide, hq⟩
          · exact ⟨by decide, hq⟩
        · exact ⟨by decide, hq⟩
    · exact ⟨by decide, hq⟩
def t_Guess_gather_28_30_8 (E : MEnv) (I : II) (T : TT) (Q : QQ) (x4 : Int32) : Prop := ((I 3 6) ≤ x4 → (Q (.inl none) I T)) ∧ (¬ ((I 3 6) ≤ x4) → (t_Guess_gather_28_30_15 E I T Q x4 0))
theorem s_Guess_gather_28_30_8 {E : MEnv} {I : II} {T : TT} {Q : QQ} {x4 : Int32} (hq : t_Guess_gather_28_30_8 E I T Q x4) : ev E 249 8 [some (.ref 44), some (.ref 28), some (.ref 30), some (.ref 20), some (.int x4), none] [] I T Q := by
  unfold t_Guess_gather_28_30_8 at hq
  refine ev_seq 4 (ip' := 12) (loc' := [some (.ref 44), some (.ref 28), some (.ref 30), some (.ref 20), some (.int x4), none]) (st' := [(.int (I 3 6)), (.int x4)]) (I1 := I) (T1 := T) rfl ?_
  refine ev_br (p := (I 3 6) ≤ x4) (a := 52) (b := 13) (st' := []) inferInstance rfl rfl (fun hb => ?_) (fun hb => ?_)
  · have hq := hq.1 hb
    exact ev_ret rfl rfl hq
  · have hq := hq.2 hb
    refine ev_seq 2 (ip' := 15) (loc' := [some (.ref 44), some (.ref 28), some (.ref 30), some (.ref 20), some (.int x4), some (.int 0)]) (st' := []) (I1 := I) (T1 := T) rfl ?_
    exact s_Guess_gather_28_30_15 (T := T) hq
def t_Guess_gather_28_30_0 (E : MEnv) (I : II) (T : TT) (Q : QQ) : Prop := t_Guess_gather_28_30_8 E (m_up (m_up I 44 1 0) 44 2 (-1)) T Q 0
theorem s_Guess_gather_28_30_0 {E : MEnv} {I : II} {T : TT} {Q : QQ} (hq : t_Guess_gather_28_30_0 E I T Q) : ev E 249 0 [some (.ref 44), some (.ref 28), some (.ref 30), some (.ref 20), none, none] [] I T Q := by
  unfold t_Guess_gather_28_30_0 at hq
  refine ev_seq 8 (ip' := 8) (loc' := [some (.ref 44), some (.ref 28), some (.ref 30), some (.ref 20), some (.int 0), none]) (st' := []) (I1 := m_up (m_up I 44 1 0) 44 2 (-1)) (T1 := T) rfl ?_
  exact s_Guess_gather_28_30_8 (T := T) hq
/-- FeltHarness$Guess.keep(LFeltHarness$Coach;I)V -/
def t_Guess_keep_30_35 (E : MEnv) (I : II) (T : TT) (Q : QQ) : Prop := Q (.inl none) I T
theorem s_Guess_keep_30_35 {E : MEnv} {I : II} {T : TT} {Q : QQ} (hq : t_Guess_keep_30_35 E I T Q) : ev E 251 35 [none, none, none, none] [] I T Q := by
  unfold t_Guess_keep_30_35 at hq
  exact ev_ret rfl rfl hq
def t_Guess_keep_30_12 (E : MEnv) (I : II) (T : TT) (Q : QQ) (x3 : Int32) : Prop := (8 ≤ x3 → (t_Guess_keep_30_35 E (m_up I 44 1 ((I 44 1) + 1)) T Q )) ∧ (¬ (8 ≤ x3) → (ev E 127 0 [some (.ref 30), some (.int x3)] [] I T (KI (fun v1 I1 T1 => (¬ (((I 44 1) * 8) + x3) < 0 ∧ (((I 44 1) * 8) + x3).toNatClampNeg < 192) ∧ (ev E 251 12 [some (.ref 44), some (.ref 30), none, some (.int (x3 + 1))] [] (m_up I1 45 (((I 44 1) * 8) + x3).toNatClampNeg v1) T1 Q)) (fun x I1 T1 => Q (.inr x) I1 T1))))
theorem s_Guess_keep_30_12 {E : MEnv} {I : II} {T : TT} {Q : QQ} {x3 : Int32} (hq : t_Guess_keep_30_12 E I T Q x3) : ev E 251 12 [some (.ref 44), some (.ref 30), none, some (.int x3)] [] I T Q := by
  unfold t_Guess_keep_30_12 at hq
  refine ev_seq 2 (ip' := 14) (loc' := [some (.ref 44), some (.ref 30), none, some (.int x3)]) (st' := [(.int 8), (.int x3)]) (I1 := I) (T1 := T) rfl ?_
  refine ev_br (p := 8 ≤ x3) (a := 29) (b := 15) (st' := []) inferInstance rfl rfl (fun hb => ?_) (fun hb => ?_)
  · have hq := hq.1 hb
    refine ev_seq 6 (ip' := 35) (loc' := [some (.ref 44), some (.ref 30), none, some (.int x3)]) (st' := []) (I1 := m_up I 44 1 ((I 44 1) + 1)) (T1 := T) rfl ?_
    refine ev_fg [false, false, true, false] (loc' := [none, none, none, none]) rfl ?_
    exact s_Guess_keep_30_35 (T := T) hq
  · have hq := hq.2 hb
    refine ev_seq 10 (ip' := 25) (loc' := [some (.ref 44), some (.ref 30), none, some (.int x3)]) (st' := [(.int x3), (.ref 30), (.int (((I 44 1) * 8) + x3)), (.ref 45)]) (I1 := I) (T1 := T) rfl ?_
    refine ev_callI rfl rfl rfl (fun v1 I1 T1 hq => ?_) (fun x I1 T1 hq => ?_) hq
    · obtain ⟨hg, hq⟩ := hq
      refine ev_iast rfl rfl hg ?_
      refine ev_seq 2 (ip' := 12) (loc' := [some (.ref 44), some (.ref 30), none, some (.int (x3 + 1))]) (st' := []) (I1 := m_up I1 45 (((I 44 1) * 8) + x3).toNatClampNeg v1) (T1 := T1) rfl ?_
      exact hq
    · exact ⟨by decide, hq⟩
def t_Guess_keep_30_6 (E : MEnv) (I : II) (T : TT) (Q : QQ) : Prop := (24 ≤ (I 44 1) → (t_Guess_keep_30_35 E I T Q )) ∧ (¬ (24 ≤ (I 44 1)) → (t_Guess_keep_30_12 E I T Q 0))
theorem s_Guess_keep_30_6 {E : MEnv} {I : II} {T : TT} {Q : QQ} (hq : t_Guess_keep_30_6 E I T Q) : ev E 251 6 [some (.ref 44), some (.ref 30), none, none] [] I T Q := by
  unfold t_Guess_keep_30_6 at hq
  refine ev_seq 3 (ip' := 9) (loc' := [some (.ref 44), some (.ref 30), none, none]) (st' := [(.int 24), (.int (I 44 1))]) (I1 := I) (T1 := T) rfl ?_
  refine ev_br (p := 24 ≤ (I 44 1)) (a := 35) (b := 10) (st' := []) inferInstance rfl rfl (fun hb => ?_) (fun hb => ?_)
  · have hq := hq.1 hb
    refine ev_fg [false, false, true, true] (loc' := [none, none, none, none]) rfl ?_
    exact s_Guess_keep_30_35 (T := T) hq
  · have hq := hq.2 hb
    refine ev_seq 2 (ip' := 12) (loc' := [some (.ref 44), some (.ref 30), none, some (.int 0)]) (st' := []) (I1 := I) (T1 := T) rfl ?_
    exact s_Guess_keep_30_12 (T := T) hq
def t_Guess_keep_30_0 (E : MEnv) (I : II) (T : TT) (Q : QQ) (x2 : Int32) : Prop := ((I 44 1) = 0 → (t_Guess_keep_30_6 E (m_up I 44 2 x2) T Q )) ∧ (¬ ((I 44 1) = 0) → (t_Guess_keep_30_6 E I T Q ))
theorem s_Guess_keep_30_0 {E : MEnv} {I : II} {T : TT} {Q : QQ} {x2 : Int32} (hq : t_Guess_keep_30_0 E I T Q x2) : ev E 251 0 [some (.ref 44), some (.ref 30), some (.int x2), none] [] I T Q := by
  unfold t_Guess_keep_30_0 at hq
  refine ev_seq 2 (ip' := 2) (loc' := [some (.ref 44), some (.ref 30), some (.int x2), none]) (st' := [(.int (I 44 1))]) (I1 := I) (T1 := T) rfl ?_
  refine ev_br (p := (I 44 1) = 0) (a := 3) (b := 6) (st' := []) inferInstance rfl rfl (fun hb => ?_) (fun hb => ?_)
  · have hq := hq.1 hb
    refine ev_seq 3 (ip' := 6) (loc' := [some (.ref 44), some (.ref 30), some (.int x2), none]) (st' := []) (I1 := m_up I 44 2 x2) (T1 := T) rfl ?_
    refine ev_fg [true, true, false, true] (loc' := [some (.ref 44), some (.ref 30), none, none]) rfl ?_
    exact s_Guess_keep_30_6 (T := T) hq
  · have hq := hq.2 hb
    refine ev_fg [true, true, false, true] (loc' := [some (.ref 44), some (.ref 30), none, none]) rfl ?_
    exact s_Guess_keep_30_6 (T := T) hq
/-- FeltHarness$Guess.tiredBy(II)I -/
def t_Guess_tiredBy_20 (E : MEnv) (I : II) (T : TT) (Q : QQ) (y0 : Int32) : Prop := Q (.inl (some (.int y0))) I T
theorem s_Guess_tiredBy_20 {E : MEnv} {I : II} {T : TT} {Q : QQ} {y0 : Int32} (hq : t_Guess_tiredBy_20 E I T Q y0) : ev E 258 20 [none, none, none] [(.int y0)] I T Q := by
  unfold t_Guess_tiredBy_20 at hq
  exact ev_ret rfl rfl hq
def t_Guess_tiredBy_19 (E : MEnv) (I : II) (T : TT) (Q : QQ) : Prop := t_Guess_tiredBy_20 E I T Q 0
theorem s_Guess_tiredBy_19 {E : MEnv} {I : II} {T : TT} {Q : QQ} (hq : t_Guess_tiredBy_19 E I T Q) : ev E 258 19 [none, none, none] [] I T Q := by
  unfold t_Guess_tiredBy_19 at hq
  refine ev_seq 1 (ip' := 20) (loc' := [none, none, none]) (st' := [(.int 0)]) (I1 := I) (T1 := T) rfl ?_
  exact s_Guess_tiredBy_20 (T := T) hq
def t_Guess_tiredBy_0 (E : MEnv) (I : II) (T : TT) (Q : QQ) (x1 : Int32) (x2 : Int32) : Prop := ev E 27 0 [some (.int x1), some (.int 0), some (.int 23)] [] I T (KI (fun v1 I1 T1 => (v1 = 0 → (t_Guess_tiredBy_19 E I1 T1 Q )) ∧ (¬ (v1 = 0) → (ev E 27 0 [some (.int x2), some (.int 0), some (.int 7)] [] I1 T1 (KI (fun v2 I2 T2 => (v2 = 0 → (t_Guess_tiredBy_19 E I2 T2 Q )) ∧ (¬ (v2 = 0) → ((¬ ((x1 * 8) + x2) < 0 ∧ ((x1 * 8) + x2).toNatClampNeg < 192) ∧ (t_Guess_tiredBy_20 E I2 T2 Q (I2 45 ((x1 * 8) + x2).toNatClampNeg))))) (fun _ _ _ => False))))) (fun _ _ _ => False))
theorem s_Guess_tiredBy_0 {E : MEnv} {I : II} {T : TT} {Q : QQ} {x1 : Int32} {x2 : Int32} (hq : t_Guess_tiredBy_0 E I T Q x1 x2) : ev E 258 0 [some (.ref 44), some (.int x1), some (.int x2)] [] I T Q := by
  unfold t_Guess_tiredBy_0 at hq
  refine ev_seq 3 (ip' := 3) (loc' := [some (.ref 44), some (.int x1), some (.int x2)]) (st' := [(.int 23), (.int 0), (.int x1)]) (I1 := I) (T1 := T) rfl ?_
  refine ev_callI rfl rfl rfl (fun v1 I1 T1 hq => ?_) (fun x I1 T1 hq => ?_) hq
  · refine ev_br (p := v1 = 0) (a := 19) (b := 5) (st' := []) inferInstance rfl rfl (fun hb => ?_) (fun hb => ?_)
    · have hq := hq.1 hb
      refine ev_fg [false, false, false] (loc' := [none, none, none]) rfl ?_
      exact s_Guess_tiredBy_19 (T := T1) hq
    · have hq := hq.2 hb
      refine ev_seq 3 (ip' := 8) (loc' := [some (.ref 44), some (.int x1), some (.int x2)]) (st' := [(.int 7), (.int 0), (.int x2)]) (I1 := I1) (T1 := T1) rfl ?_
      refine ev_callI rfl rfl rfl (fun v2 I2 T2 hq => ?_) (fun x I1 T1 hq => ?_) hq
      · refine ev_br (p := v2 = 0) (a := 19) (b := 10) (st' := []) inferInstance rfl rfl (fun hb => ?_) (fun hb => ?_)
        · have hq := hq.1 hb
          refine ev_fg [false, false, false] (loc' := [none, none, none]) rfl ?_
          exact s_Guess_tiredBy_19 (T := T2) hq
        · have hq := hq.2 hb
          refine ev_seq 7 (ip' := 17) (loc' := [some (.ref 44), some (.int x1), some (.int x2)]) (st' := [(.int ((x1 * 8) + x2)), (.ref 45)]) (I1 := I2) (T1 := T2) rfl ?_
          obtain ⟨hg, hq⟩ := hq
          refine ev_iald rfl rfl hg ?_
          refine ev_seq 1 (ip' := 20) (loc' := [some (.ref 44), some (.int x1), some (.int x2)]) (st' := [(.int (I2 45 ((x1 * 8) + x2).toNatClampNeg))]) (I1 := I2) (T1 := T2) rfl ?_
          refine ev_fg [false, false, false] (loc' := [none, none, none]) rfl ?_
          exact s_Guess_tiredBy_20 (T := T2) hq
      · exact hq.elim
  · exact hq.elim
/-- FeltHarness$Guess.worst(I)I -/
def t_Guess_worst_26 (E : MEnv) (I : II) (T : TT) (Q : QQ) (x1 : Int32) (x2 : Int32) (x3 : Int32) (x4 : Int32) (x5 : Int32) : Prop := ev E 257 12 [some (.ref 44), some (.int x1), some (.int x2), some (.int x3), some (.int x4), some (.int (x5 + 1))] [] I T Q
theorem s_Guess_worst_26 {E : MEnv} {I : II} {T : TT} {Q : QQ} {x1 : Int32} {x2 : Int32} {x3 : Int32} {x4 : Int32} {x5 : Int32} (hq : t_Guess_worst_26 E I T Q x1 x2 x3 x4 x5) : ev E 257 26 [some (.ref 44), some (.int x1), some (.int x2), some (.int x3), some (.int x4), some (.int x5)] [] I T Q := by
  unfold t_Guess_worst_26 at hq
  refine ev_seq 2 (ip' := 12) (loc' := [some (.ref 44), some (.int x1), some (.int x2), some (.int x3), some (.int x4), some (.int (x5 + 1))]) (st' := []) (I1 := I) (T1 := T) rfl ?_
  exact hq
def t_Guess_worst_12 (E : MEnv) (I : II) (T : TT) (Q : QQ) (x1 : Int32) (x2 : Int32) (x3 : Int32) (x4 : Int32) (x5 : Int32) : Prop := ((I 44 1) ≤ x5 → (ev E 257 4 [some (.ref 44), some (.int x1), some (.int (if x2 < x4 then x4 else x2)), some (.int (x3 + 1)), none, none] [] I T Q)) ∧ (¬ ((I 44 1) ≤ x5) → (ev E 258 0 [some (.ref 44), some (.int x3), some (.int x1)] [] I T (KI (fun v1 I1 T1 => ev E 258 0 [some (.ref 44), some (.int x5), some (.int x1)] [] I1 T1 (KI (fun v2 I2 T2 => (v1 = v2 → (t_Guess_worst_26 E I2 T2 Q x1 x2 x3 (x4 + 1) x5)) ∧ (¬ (v1 = v2) → (t_Guess_worst_26 E I2 T2 Q x1 x2 x3 x4 x5))) (fun x I1 T1 => Q (.inr x) I1 T1))) (fun x I1 T1 => Q (.inr x) I1 T1))))
theorem s_Guess_worst_12 {E : MEnv} {I : II} {T : TT} {Q : QQ} {x1 : Int32} {x2 : Int32} {x3 : Int32} {x4 : Int32} {x5 : Int32} (hq : t_Guess_worst_12 E I T Q x1 x2 x3 x4 x5) : ev E 257 12 [some (.ref 44), some (.int x1), some (.int x2), some (.int x3), some (.int x4), some (.int x5)] [] I T Q := by
  unfold t_Guess_worst_12 at hq
  refine ev_seq 3 (ip' := 15) (loc' := [some (.ref 44), some (.int x1), some (.int x2), some (.int x3), some (.int x4), some (.int x5)]) (st' := [(.int (I 44 1)), (.int x5)]) (I1 := I) (T1 := T) rfl ?_
  refine ev_br (p := (I 44 1) ≤ x5) (a := 28) (b := 16) (st' := []) inferInstance rfl rfl (fun hb => ?_) (fun hb => ?_)
  · have hq := hq.1 hb
    refine ev_seq 6 (ip' := 4) (loc' := [some (.ref 44), some (.int x1), some (.int (if x2 < x4 then x4 else x2)), some (.int (x3 + 1)), some (.int x4), some (.int x5)]) (st' := []) (I1 := I) (T1 := T) rfl ?_
    refine ev_fg [true, true, true, true, false, false] (loc' := [some (.ref 44), some (.int x1), some (.int (if x2 < x4 then x4 else x2)), some (.int (x3 + 1)), none, none]) rfl ?_
    exact hq
  · have hq := hq.2 hb
    refine ev_seq 3 (ip' := 19) (loc' := [some (.ref 44), some (.int x1), some (.int x2), some (.int x3), some (.int x4), some (.int x5)]) (st' := [(.int x1), (.int x3), (.ref 44)]) (I1 := I) (T1 := T) rfl ?_
    refine ev_callI rfl rfl rfl (fun v1 I1 T1 hq => ?_) (fun x I1 T1 hq => ?_) hq
    · refine ev_seq 3 (ip' := 23) (loc' := [some (.ref 44), some (.int x1), some (.int x2), some (.int x3), some (.int x4), some (.int x5)]) (st' := [(.int x1), (.int x5), (.ref 44), (.int v1)]) (I1 := I1) (T1 := T1) rfl ?_
      refine ev_callI rfl rfl rfl (fun v2 I2 T2 hq => ?_) (fun x I1 T1 hq => ?_) hq
      · refine ev_br (p := v1 = v2) (a := 25) (b := 26) (st' := []) inferInstance rfl rfl (fun hb => ?_) (fun hb => ?_)
        · have hq := hq.1 hb
          refine ev_seq 1 (ip' := 26) (loc' := [some (.ref 44), some (.int x1), some (.int x2), some (.int x3), some (.int (x4 + 1)), some (.int x5)]) (st' := []) (I1 := I2) (T1 := T2) rfl ?_
          exact s_Guess_worst_26 (T := T2) hq
        · have hq := hq.2 hb
          exact s_Guess_worst_26 (T := T2) hq
      · exact ⟨by decide, hq⟩
    · exact ⟨by decide, hq⟩
def t_Guess_worst_4 (E : MEnv) (I : II) (T : TT) (Q : QQ) (x1 : Int32) (x2 : Int32) (x3 : Int32) : Prop := ((I 44 1) ≤ x3 → (Q (.inl (some (.int x2))) I T)) ∧ (¬ ((I 44 1) ≤ x3) → (t_Guess_worst_12 E I T Q x1 x2 x3 0 0))
theorem s_Guess_worst_4 {E : MEnv} {I : II} {T : TT} {Q : QQ} {x1 : Int32} {x2 : Int32} {x3 : Int32} (hq : t_Guess_worst_4 E I T Q x1 x2 x3) : ev E 257 4 [some (.ref 44), some (.int x1), some (.int x2), some (.int x3), none, none] [] I T Q := by
  unfold t_Guess_worst_4 at hq
  refine ev_seq 3 (ip' := 7) (loc' := [some (.ref 44), some (.int x1), some (.int x2), some (.int x3), none, none]) (st' := [(.int (I 44 1)), (.int x3)]) (I1 := I) (T1 := T) rfl ?_
  refine ev_br (p := (I 44 1) ≤ x3) (a := 34) (b := 8) (st' := []) inferInstance rfl rfl (fun hb => ?_) (fun hb => ?_)
  · have hq := hq.1 hb
    refine ev_seq 1 (ip' := 35) (loc' := [some (.ref 44), some (.int x1), some (.int x2), some (.int x3), none, none]) (st' := [(.int x2)]) (I1 := I) (T1 := T) rfl ?_
    exact ev_ret rfl rfl hq
  · have hq := hq.2 hb
    refine ev_seq 4 (ip' := 12) (loc' := [some (.ref 44), some (.int x1), some (.int x2), some (.int x3), some (.int 0), some (.int 0)]) (st' := []) (I1 := I) (T1 := T) rfl ?_
    exact s_Guess_worst_12 (T := T) hq
def t_Guess_worst_0 (E : MEnv) (I : II) (T : TT) (Q : QQ) (x1 : Int32) : Prop := t_Guess_worst_4 E I T Q x1 0 0
theorem s_Guess_worst_0 {E : MEnv} {I : II} {T : TT} {Q : QQ} {x1 : Int32} (hq : t_Guess_worst_0 E I T Q x1) : ev E 257 0 [some (.ref 44), some (.int x1), none, none, none, none] [] I T Q := by
  unfold t_Guess_worst_0 at hq
  refine ev_seq 4 (ip' := 4) (loc' := [some (.ref 44), some (.int x1), some (.int 0), some (.int 0), none, none]) (st' := []) (I1 := I) (T1 := T) rfl ?_
  exact s_Guess_worst_4 (T := T) hq
/-- FeltHarness$House.calmOf(I)I -/
def t_House_calmOf_3_10 (E : MEnv) (I : II) (T : TT) (Q : QQ) (y0 : Int32) : Prop := Q (.inl (some (.int y0))) I T
theorem s_House_calmOf_3_10 {E : MEnv} {I : II} {T : TT} {Q : QQ} {y0 : Int32} (hq : t_House_calmOf_3_10 E I T Q y0) : ev E 126 10 [none, none] [(.int y0)] I T Q := by
  unfold t_House_calmOf_3_10 at hq
  exact ev_ret rfl rfl hq
def t_House_calmOf_3_0 (E : MEnv) (I : II) (T : TT) (Q : QQ) (x1 : Int32) : Prop := ev E 107 0 [some (.ref 3), some (.int x1)] [] I T (KI (fun v1 I1 T1 => (v1 = 0 → (t_House_calmOf_3_10 E I1 T1 Q 0)) ∧ (¬ (v1 = 0) → ((¬ x1 < 0 ∧ x1.toNatClampNeg < 8) ∧ (t_House_calmOf_3_10 E I1 T1 Q (I1 5 x1.toNatClampNeg))))) (fun x I1 T1 => Q (.inr x) I1 T1))
theorem s_House_calmOf_3_0 {E : MEnv} {I : II} {T : TT} {Q : QQ} {x1 : Int32} (hq : t_House_calmOf_3_0 E I T Q x1) : ev E 126 0 [some (.ref 3), some (.int x1)] [] I T Q := by
  unfold t_House_calmOf_3_0 at hq
  refine ev_seq 2 (ip' := 2) (loc' := [some (.ref 3), some (.int x1)]) (st' := [(.int x1), (.ref 3)]) (I1 := I) (T1 := T) rfl ?_
  refine ev_callI rfl rfl rfl (fun v1 I1 T1 hq => ?_) (fun x I1 T1 hq => ?_) hq
  · refine ev_br (p := v1 = 0) (a := 9) (b := 4) (st' := []) inferInstance rfl rfl (fun hb => ?_) (fun hb => ?_)
    · have hq := hq.1 hb
      refine ev_seq 1 (ip' := 10) (loc' := [some (.ref 3), some (.int x1)]) (st' := [(.int 0)]) (I1 := I1) (T1 := T1) rfl ?_
      refine ev_fg [false, false] (loc' := [none, none]) rfl ?_
      exact s_House_calmOf_3_10 (T := T1) hq
    · have hq := hq.2 hb
      refine ev_seq 3 (ip' := 7) (loc' := [some (.ref 3), some (.int x1)]) (st' := [(.int x1), (.ref 5)]) (I1 := I1) (T1 := T1) rfl ?_
      obtain ⟨hg, hq⟩ := hq
      refine ev_iald rfl rfl hg ?_
      refine ev_seq 1 (ip' := 10) (loc' := [some (.ref 3), some (.int x1)]) (st' := [(.int (I1 5 x1.toNatClampNeg))]) (I1 := I1) (T1 := T1) rfl ?_
      refine ev_fg [false, false] (loc' := [none, none]) rfl ?_
      exact s_House_calmOf_3_10 (T := T1) hq
  · exact ⟨by decide, hq⟩
/-- FeltHarness$House.copyFrom(LFeltHarness$House;)V -/
def t_House_copyFrom_3_0 (E : MEnv) (I : II) (T : TT) (Q : QQ) : Prop := Q (.inl none) (m_up (m_up (m_up (m_row (m_row (m_row (m_row (m_row I 4 (va_cpy (I 10) (I 4) 0 0 8)) 5 (va_cpy ((m_row I 4 (va_cpy (I 10) (I 4) 0 0 8)) 11) ((m_row I 4 (va_cpy (I 10) (I 4) 0 0 8)) 5) 0 0 8)) 6 (va_cpy ((m_row (m_row I 4 (va_cpy (I 10) (I 4) 0 0 8)) 5 (va_cpy ((m_row I 4 (va_cpy (I 10) (I 4) 0 0 8)) 11) ((m_row I 4 (va_cpy (I 10) (I 4) 0 0 8)) 5) 0 0 8)) 12) ((m_row (m_row I 4 (va_cpy (I 10) (I 4) 0 0 8)) 5 (va_cpy ((m_row I 4 (va_cpy (I 10) (I 4) 0 0 8)) 11) ((m_row I 4 (va_cpy (I 10) (I 4) 0 0 8)) 5) 0 0 8)) 6) 0 0 8)) 7 (va_cpy ((m_row (m_row (m_row I 4 (va_cpy (I 10) (I 4) 0 0 8)) 5 (va_cpy ((m_row I 4 (va_cpy (I 10) (I 4) 0 0 8)) 11) ((m_row I 4 (va_cpy (I 10) (I 4) 0 0 8)) 5) 0 0 8)) 6 (va_cpy ((m_row (m_row I 4 (va_cpy (I 10) (I 4) 0 0 8)) 5 (va_cpy ((m_row I 4 (va_cpy (I 10) (I 4) 0 0 8)) 11) ((m_row I 4 (va_cpy (I 10) (I 4) 0 0 8)) 5) 0 0 8)) 12) ((m_row (m_row I 4 (va_cpy (I 10) (I 4) 0 0 8)) 5 (va_cpy ((m_row I 4 (va_cpy (I 10) (I 4) 0 0 8)) 11) ((m_row I 4 (va_cpy (I 10) (I 4) 0 0 8)) 5) 0 0 8)) 6) 0 0 8)) 13) ((m_row (m_row (m_row I 4 (va_cpy (I 10) (I 4) 0 0 8)) 5 (va_cpy ((m_row I 4 (va_cpy (I 10) (I 4) 0 0 8)) 11) ((m_row I 4 (va_cpy (I 10) (I 4) 0 0 8)) 5) 0 0 8)) 6 (va_cpy ((m_row (m_row I 4 (va_cpy (I 10) (I 4) 0 0 8)) 5 (va_cpy ((m_row I 4 (va_cpy (I 10) (I 4) 0 0 8)) 11) ((m_row I 4 (va_cpy (I 10) (I 4) 0 0 8)) 5) 0 0 8)) 12) ((m_row (m_row I 4 (va_cpy (I 10) (I 4) 0 0 8)) 5 (va_cpy ((m_row I 4 (va_cpy (I 10) (I 4) 0 0 8)) 11) ((m_row I 4 (va_cpy (I 10) (I 4) 0 0 8)) 5) 0 0 8)) 6) 0 0 8)) 7) 0 0 6)) 8 (va_cpy ((m_row (m_row (m_row (m_row I 4 (va_cpy (I 10) (I 4) 0 0 8)) 5 (va_cpy ((m_row I 4 (va_cpy (I 10) (I 4) 0 0 8)) 11) ((m_row I 4 (va_cpy (I 10) (I 4) 0 0 8)) 5) 0 0 8)) 6 (va_cpy ((m_row (m_row I 4 (va_cpy (I 10) (I 4) 0 0 8)) 5 (va_cpy ((m_row I 4 (va_cpy (I 10) (I 4) 0 0 8)) 11) ((m_row I 4 (va_cpy (I 10) (I 4) 0 0 8)) 5) 0 0 8)) 12) ((m_row (m_row I 4 (va_cpy (I 10) (I 4) 0 0 8)) 5 (va_cpy ((m_row I 4 (va_cpy (I 10) (I 4) 0 0 8)) 11) ((m_row I 4 (va_cpy (I 10) (I 4) 0 0 8)) 5) 0 0 8)) 6) 0 0 8)) 7 (va_cpy ((m_row (m_row (m_row I 4 (va_cpy (I 10) (I 4) 0 0 8)) 5 (va_cpy ((m_row I 4 (va_cpy (I 10) (I 4) 0 0 8)) 11) ((m_row I 4 (va_cpy (I 10) (I 4) 0 0 8)) 5) 0 0 8)) 6 (va_cpy ((m_row (m_row I 4 (va_cpy (I 10) (I 4) 0 0 8)) 5 (va_cpy ((m_row I 4 (va_cpy (I 10) (I 4) 0 0 8)) 11) ((m_row I 4 (va_cpy (I 10) (I 4) 0 0 8)) 5) 0 0 8)) 12) ((m_row (m_row I 4 (va_cpy (I 10) (I 4) 0 0 8)) 5 (va_cpy ((m_row I 4 (va_cpy (I 10) (I 4) 0 0 8)) 11) ((m_row I 4 (va_cpy (I 10) (I 4) 0 0 8)) 5) 0 0 8)) 6) 0 0 8)) 13) ((m_row (m_row (m_row I 4 (va_cpy (I 10) (I 4) 0 0 8)) 5 (va_cpy ((m_row I 4 (va_cpy (I 10) (I 4) 0 0 8)) 11) ((m_row I 4 (va_cpy (I 10) (I 4) 0 0 8)) 5) 0 0 8)) 6 (va_cpy ((m_row (m_row I 4 (va_cpy (I 10) (I 4) 0 0 8)) 5 (va_cpy ((m_row I 4 (va_cpy (I 10) (I 4) 0 0 8)) 11) ((m_row I 4 (va_cpy (I 10) (I 4) 0 0 8)) 5) 0 0 8)) 12) ((m_row (m_row I 4 (va_cpy (I 10) (I 4) 0 0 8)) 5 (va_cpy ((m_row I 4 (va_cpy (I 10) (I 4) 0 0 8)) 11) ((m_row I 4 (va_cpy (I 10) (I 4) 0 0 8)) 5) 0 0 8)) 6) 0 0 8)) 7) 0 0 6)) 14) ((m_row (m_row (m_row (m_row I 4 (va_cpy (I 10) (I 4) 0 0 8)) 5 (va_cpy ((m_row I 4 (va_cpy (I 10) (I 4) 0 0 8)) 11) ((m_row I 4 (va_cpy (I 10) (I 4) 0 0 8)) 5) 0 0 8)) 6 (va_cpy ((m_row (m_row I 4 (va_cpy (I 10) (I 4) 0 0 8)) 5 (va_cpy ((m_row I 4 (va_cpy (I 10) (I 4) 0 0 8)) 11) ((m_row I 4 (va_cpy (I 10) (I 4) 0 0 8)) 5) 0 0 8)) 12) ((m_row (m_row I 4 (va_cpy (I 10) (I 4) 0 0 8)) 5 (va_cpy ((m_row I 4 (va_cpy (I 10) (I 4) 0 0 8)) 11) ((m_row I 4 (va_cpy (I 10) (I 4) 0 0 8)) 5) 0 0 8)) 6) 0 0 8)) 7 (va_cpy ((m_row (m_row (m_row I 4 (va_cpy (I 10) (I 4) 0 0 8)) 5 (va_cpy ((m_row I 4 (va_cpy (I 10) (I 4) 0 0 8)) 11) ((m_row I 4 (va_cpy (I 10) (I 4) 0 0 8)) 5) 0 0 8)) 6 (va_cpy ((m_row (m_row I 4 (va_cpy (I 10) (I 4) 0 0 8)) 5 (va_cpy ((m_row I 4 (va_cpy (I 10) (I 4) 0 0 8)) 11) ((m_row I 4 (va_cpy (I 10) (I 4) 0 0 8)) 5) 0 0 8)) 12) ((m_row (m_row I 4 (va_cpy (I 10) (I 4) 0 0 8)) 5 (va_cpy ((m_row I 4 (va_cpy (I 10) (I 4) 0 0 8)) 11) ((m_row I 4 (va_cpy (I 10) (I 4) 0 0 8)) 5) 0 0 8)) 6) 0 0 8)) 13) ((m_row (m_row (m_row I 4 (va_cpy (I 10) (I 4) 0 0 8)) 5 (va_cpy ((m_row I 4 (va_cpy (I 10) (I 4) 0 0 8)) 11) ((m_row I 4 (va_cpy (I 10) (I 4) 0 0 8)) 5) 0 0 8)) 6 (va_cpy ((m_row (m_row I 4 (va_cpy (I 10) (I 4) 0 0 8)) 5 (va_cpy ((m_row I 4 (va_cpy (I 10) (I 4) 0 0 8)) 11) ((m_row I 4 (va_cpy (I 10) (I 4) 0 0 8)) 5) 0 0 8)) 12) ((m_row (m_row I 4 (va_cpy (I 10) (I 4) 0 0 8)) 5 (va_cpy ((m_row I 4 (va_cpy (I 10) (I 4) 0 0 8)) 11) ((m_row I 4 (va_cpy (I 10) (I 4) 0 0 8)) 5) 0 0 8)) 6) 0 0 8)) 7) 0 0 6)) 8) 0 0 6)) 3 5 ((m_row (m_row (m_row (m_row (m_row I 4 (va_cpy (I 10) (I 4) 0 0 8)) 5 (va_cpy ((m_row I 4 (va_cpy (I 10) (I 4) 0 0 8)) 11) ((m_row I 4 (va_cpy (I 10) (I 4) 0 0 8)) 5) 0 0 8)) 6 (va_cpy ((m_row (m_row I 4 (va_cpy (I 10) (I 4) 0 0 8)) 5 (va_cpy ((m_row I 4 (va_cpy (I 10) (I 4) 0 0 8)) 11) ((m_row I 4 (va_cpy (I 10) (I 4) 0 0 8)) 5) 0 0 8)) 12) ((m_row (m_row I 4 (va_cpy (I 10) (I 4) 0 0 8)) 5 (va_cpy ((m_row I 4 (va_cpy (I 10) (I 4) 0 0 8)) 11) ((m_row I 4 (va_cpy (I 10) (I 4) 0 0 8)) 5) 0 0 8)) 6) 0 0 8)) 7 (va_cpy ((m_row (m_row (m_row I 4 (va_cpy (I 10) (I 4) 0 0 8)) 5 (va_cpy ((m_row I 4 (va_cpy (I 10) (I 4) 0 0 8)) 11) ((m_row I 4 (va_cpy (I 10) (I 4) 0 0 8)) 5) 0 0 8)) 6 (va_cpy ((m_row (m_row I 4 (va_cpy (I 10) (I 4) 0 0 8)) 5 (va_cpy ((m_row I 4 (va_cpy (I 10) (I 4) 0 0 8)) 11) ((m_row I 4 (va_cpy (I 10) (I 4) 0 0 8)) 5) 0 0 8)) 12) ((m_row (m_row I 4 (va_cpy (I 10) (I 4) 0 0 8)) 5 (va_cpy ((m_row I 4 (va_cpy (I 10) (I 4) 0 0 8)) 11) ((m_row I 4 (va_cpy (I 10) (I 4) 0 0 8)) 5) 0 0 8)) 6) 0 0 8)) 13) ((m_row (m_row (m_row I 4 (va_cpy (I 10) (I 4) 0 0 8)) 5 (va_cpy ((m_row I 4 (va_cpy (I 10) (I 4) 0 0 8)) 11) ((m_row I 4 (va_cpy (I 10) (I 4) 0 0 8)) 5) 0 0 8)) 6 (va_cpy ((m_row (m_row I 4 (va_cpy (I 10) (I 4) 0 0 8)) 5 (va_cpy ((m_row I 4 (va_cpy (I 10) (I 4) 0 0 8)) 11) ((m_row I 4 (va_cpy (I 10) (I 4) 0 0 8)) 5) 0 0 8)) 12) ((m_row (m_row I 4 (va_cpy (I 10) (I 4) 0 0 8)) 5 (va_cpy ((m_row I 4 (va_cpy (I 10) (I 4) 0 0 8)) 11) ((m_row I 4 (va_cpy (I 10) (I 4) 0 0 8)) 5) 0 0 8)) 6) 0 0 8)) 7) 0 0 6)) 8 (va_cpy ((m_row (m_row (m_row (m_row I 4 (va_cpy (I 10) (I 4) 0 0 8)) 5 (va_cpy ((m_row I 4 (va_cpy (I 10) (I 4) 0 0 8)) 11) ((m_row I 4 (va_cpy (I 10) (I 4) 0 0 8)) 5) 0 0 8)) 6 (va_cpy ((m_row (m_row I 4 (va_cpy (I 10) (I 4) 0 0 8)) 5 (va_cpy ((m_row I 4 (va_cpy (I 10) (I 4) 0 0 8)) 11) ((m_row I 4 (va_cpy (I 10) (I 4) 0 0 8)) 5) 0 0 8)) 12) ((m_row (m_row I 4 (va_cpy (I 10) (I 4) 0 0 8)) 5 (va_cpy ((m_row I 4 (va_cpy (I 10) (I 4) 0 0 8)) 11) ((m_row I 4 (va_cpy (I 10) (I 4) 0 0 8)) 5) 0 0 8)) 6) 0 0 8)) 7 (va_cpy ((m_row (m_row (m_row I 4 (va_cpy (I 10) (I 4) 0 0 8)) 5 (va_cpy ((m_row I 4 (va_cpy (I 10) (I 4) 0 0 8)) 11) ((m_row I 4 (va_cpy (I 10) (I 4) 0 0 8)) 5) 0 0 8)) 6 (va_cpy ((m_row (m_row I 4 (va_cpy (I 10) (I 4) 0 0 8)) 5 (va_cpy ((m_row I 4 (va_cpy (I 10) (I 4) 0 0 8)) 11) ((m_row I 4 (va_cpy (I 10) (I 4) 0 0 8)) 5) 0 0 8)) 12) ((m_row (m_row I 4 (va_cpy (I 10) (I 4) 0 0 8)) 5 (va_cpy ((m_row I 4 (va_cpy (I 10) (I 4) 0 0 8)) 11) ((m_row I 4 (va_cpy (I 10) (I 4) 0 0 8)) 5) 0 0 8)) 6) 0 0 8)) 13) ((m_row (m_row (m_row I 4 (va_cpy (I 10) (I 4) 0 0 8)) 5 (va_cpy ((m_row I 4 (va_cpy (I 10) (I 4) 0 0 8)) 11) ((m_row I 4 (va_cpy (I 10) (I 4) 0 0 8)) 5) 0 0 8)) 6 (va_cpy ((m_row (m_row I 4 (va_cpy (I 10) (I 4) 0 0 8)) 5 (va_cpy ((m_row I 4 (va_cpy (I 10) (I 4) 0 0 8)) 11) ((m_row I 4 (va_cpy (I 10) (I 4) 0 0 8)) 5) 0 0 8)) 12) ((m_row (m_row I 4 (va_cpy (I 10) (I 4) 0 0 8)) 5 (va_cpy ((m_row I 4 (va_cpy (I 10) (I 4) 0 0 8)) 11) ((m_row I 4 (va_cpy (I 10) (I 4) 0 0 8)) 5) 0 0 8)) 6) 0 0 8)) 7) 0 0 6)) 14) ((m_row (m_row (m_row (m_row I 4 (va_cpy (I 10) (I 4) 0 0 8)) 5 (va_cpy ((m_row I 4 (va_cpy (I 10) (I 4) 0 0 8)) 11) ((m_row I 4 (va_cpy (I 10) (I 4) 0 0 8)) 5) 0 0 8)) 6 (va_cpy ((m_row (m_row I 4 (va_cpy (I 10) (I 4) 0 0 8)) 5 (va_cpy ((m_row I 4 (va_cpy (I 10) (I 4) 0 0 8)) 11) ((m_row I 4 (va_cpy (I 10) (I 4) 0 0 8)) 5) 0 0 8)) 12) ((m_row (m_row I 4 (va_cpy (I 10) (I 4) 0 0 8)) 5 (va_cpy ((m_row I 4 (va_cpy (I 10) (I 4) 0 0 8)) 11) ((m_row I 4 (va_cpy (I 10) (I 4) 0 0 8)) 5) 0 0 8)) 6) 0 0 8)) 7 (va_cpy ((m_row (m_row (m_row I 4 (va_cpy (I 10) (I 4) 0 0 8)) 5 (va_cpy ((m_row I 4 (va_cpy (I 10) (I 4) 0 0 8)) 11) ((m_row I 4 (va_cpy (I 10) (I 4) 0 0 8)) 5) 0 0 8)) 6 (va_cpy ((m_row (m_row I 4 (va_cpy (I 10) (I 4) 0 0 8)) 5 (va_cpy ((m_row I 4 (va_cpy (I 10) (I 4) 0 0 8)) 11) ((m_row I 4 (va_cpy (I 10) (I 4) 0 0 8)) 5) 0 0 8)) 12) ((m_row (m_row I 4 (va_cpy (I 10) (I 4) 0 0 8)) 5 (va_cpy ((m_row I 4 (va_cpy (I 10) (I 4) 0 0 8)) 11) ((m_row I 4 (va_cpy (I 10) (I 4) 0 0 8)) 5) 0 0 8)) 6) 0 0 8)) 13) ((m_row (m_row (m_row I 4 (va_cpy (I 10) (I 4) 0 0 8)) 5 (va_cpy ((m_row I 4 (va_cpy (I 10) (I 4) 0 0 8)) 11) ((m_row I 4 (va_cpy (I 10) (I 4) 0 0 8)) 5) 0 0 8)) 6 (va_cpy ((m_row (m_row I 4 (va_cpy (I 10) (I 4) 0 0 8)) 5 (va_cpy ((m_row I 4 (va_cpy (I 10) (I 4) 0 0 8)) 11) ((m_row I 4 (va_cpy (I 10) (I 4) 0 0 8)) 5) 0 0 8)) 12) ((m_row (m_row I 4 (va_cpy (I 10) (I 4) 0 0 8)) 5 (va_cpy ((m_row I 4 (va_cpy (I 10) (I 4) 0 0 8)) 11) ((m_row I 4 (va_cpy (I 10) (I 4) 0 0 8)) 5) 0 0 8)) 6) 0 0 8)) 7) 0 0 6)) 8) 0 0 6)) 9 5)) 3 6 ((m_up (m_row (m_row (m_row (m_row (m_row I 4 (va_cpy (I 10) (I 4) 0 0 8)) 5 (va_cpy ((m_row I 4 (va_cpy (I 10) (I 4) 0 0 8)) 11) ((m_row I 4 (va_cpy (I 10) (I 4) 0 0 8)) 5) 0 0 8)) 6 (va_cpy ((m_row (m_row I 4 (va_cpy (I 10) (I 4) 0 0 8)) 5 (va_cpy ((m_row I 4 (va_cpy (I 10) (I 4) 0 0 8)) 11) ((m_row I 4 (va_cpy (I 10) (I 4) 0 0 8)) 5) 0 0 8)) 12) ((m_row (m_row I 4 (va_cpy (I 10) (I 4) 0 0 8)) 5 (va_cpy ((m_row I 4 (va_cpy (I 10) (I 4) 0 0 8)) 11) ((m_row I 4 (va_cpy (I 10) (I 4) 0 0 8)) 5) 0 0 8)) 6) 0 0 8)) 7 (va_cpy ((m_row (m_row (m_row I 4 (va_cpy (I 10) (I 4) 0 0 8)) 5 (va_cpy ((m_row I 4 (va_cpy (I 10) (I 4) 0 0 8)) 11) ((m_row I 4 (va_cpy (I 10) (I 4) 0 0 8)) 5) 0 0 8)) 6 (va_cpy ((m_row (m_row I 4 (va_cpy (I 10) (I 4) 0 0 8)) 5 (va_cpy ((m_row I 4 (va_cpy (I 10) (I 4) 0 0 8)) 11) ((m_row I 4 (va_cpy (I 10) (I 4) 0 0 8)) 5) 0 0 8)) 12) ((m_row (m_row I 4 (va_cpy (I 10) (I 4) 0 0 8)) 5 (va_cpy ((m_row I 4 (va_cpy (I 10) (I 4) 0 0 8)) 11) ((m_row I 4 (va_cpy (I 10) (I 4) 0 0 8)) 5) 0 0 8)) 6) 0 0 8)) 13) ((m_row (m_row (m_row I 4 (va_cpy (I 10) (I 4) 0 0 8)) 5 (va_cpy ((m_row I 4 (va_cpy (I 10) (I 4) 0 0 8)) 11) ((m_row I 4 (va_cpy (I 10) (I 4) 0 0 8)) 5) 0 0 8)) 6 (va_cpy ((m_row (m_row I 4 (va_cpy (I 10) (I 4) 0 0 8)) 5 (va_cpy ((m_row I 4 (va_cpy (I 10) (I 4) 0 0 8)) 11) ((m_row I 4 (va_cpy (I 10) (I 4) 0 0 8)) 5) 0 0 8)) 12) ((m_row (m_row I 4 (va_cpy (I 10) (I 4) 0 0 8)) 5 (va_cpy ((m_row I 4 (va_cpy (I 10) (I 4) 0 0 8)) 11) ((m_row I 4 (va_cpy (I 10) (I 4) 0 0 8)) 5) 0 0 8)) 6) 0 0 8)) 7) 0 0 6)) 8 (va_cpy ((m_row (m_row (m_row (m_row I 4 (va_cpy (I 10) (I 4) 0 0 8)) 5 (va_cpy ((m_row I 4 (va_cpy (I 10) (I 4) 0 0 8)) 11) ((m_row I 4 (va_cpy (I 10) (I 4) 0 0 8)) 5) 0 0 8)) 6 (va_cpy ((m_row (m_row I 4 (va_cpy (I 10) (I 4) 0 0 8)) 5 (va_cpy ((m_row I 4 (va_cpy (I 10) (I 4) 0 0 8)) 11) ((m_row I 4 (va_cpy (I 10) (I 4) 0 0 8)) 5) 0 0 8)) 12) ((m_row (m_row I 4 (va_cpy (I 10) (I 4) 0 0 8)) 5 (va_cpy ((m_row I 4 (va_cpy (I 10) (I 4) 0 0 8)) 11) ((m_row I 4 (va_cpy (I 10) (I 4) 0 0 8)) 5) 0 0 8)) 6) 0 0 8)) 7 (va_cpy ((m_row (m_row (m_row I 4 (va_cpy (I 10) (I 4) 0 0 8)) 5 (va_cpy ((m_row I 4 (va_cpy (I 10) (I 4) 0 0 8)) 11) ((m_row I 4 (va_cpy (I 10) (I 4) 0 0 8)) 5) 0 0 8)) 6 (va_cpy ((m_row (m_row I 4 (va_cpy (I 10) (I 4) 0 0 8)) 5 (va_cpy ((m_row I 4 (va_cpy (I 10) (I 4) 0 0 8)) 11) ((m_row I 4 (va_cpy (I 10) (I 4) 0 0 8)) 5) 0 0 8)) 12) ((m_row (m_row I 4 (va_cpy (I 10) (I 4) 0 0 8)) 5 (va_cpy ((m_row I 4 (va_cpy (I 10) (I 4) 0 0 8)) 11) ((m_row I 4 (va_cpy (I 10) (I 4) 0 0 8)) 5) 0 0 8)) 6) 0 0 8)) 13) ((m_row (m_row (m_row I 4 (va_cpy (I 10) (I 4) 0 0 8)) 5 (va_cpy ((m_row I 4 (va_cpy (I 10) (I 4) 0 0 8)) 11) ((m_row I 4 (va_cpy (I 10) (I 4) 0 0 8)) 5) 0 0 8)) 6 (va_cpy ((m_row (m_row I 4 (va_cpy (I 10) (I 4) 0 0 8)) 5 (va_cpy ((m_row I 4 (va_cpy (I 10) (I 4) 0 0 8)) 11) ((m_row I 4 (va_cpy (I 10) (I 4) 0 0 8)) 5) 0 0 8)) 12) ((m_row (m_row I 4 (va_cpy (I 10) (I 4) 0 0 8)) 5 (va_cpy ((m_row I 4 (va_cpy (I 10) (I 4) 0 0 8)) 11) ((m_row I 4 (va_cpy (I 10) (I 4) 0 0 8)) 5) 0 0 8)) 6) 0 0 8)) 7) 0 0 6)) 14) ((m_row (m_row (m_row (m_row I 4 (va_cpy (I 10) (I 4) 0 0 8)) 5 (va_cpy ((m_row I 4 (va_cpy (I 10) (I 4) 0 0 8)) 11) ((m_row I 4 (va_cpy (I 10) (I 4) 0 0 8)) 5) 0 0 8)) 6 (va_cpy ((m_row (m_row I 4 (va_cpy (I 10) (I 4) 0 0 8)) 5 (va_cpy ((m_row I 4 (va_cpy (I 10) (I 4) 0 0 8)) 11) ((m_row I 4 (va_cpy (I 10) (I 4) 0 0 8)) 5) 0 0 8)) 12) ((m_row (m_row I 4 (va_cpy (I 10) (I 4) 0 0 8)) 5 (va_cpy ((m_row I 4 (va_cpy (I 10) (I 4) 0 0 8)) 11) ((m_row I 4 (va_cpy (I 10) (I 4) 0 0 8)) 5) 0 0 8)) 6) 0 0 8)) 7 (va_cpy ((m_row (m_row (m_row I 4 (va_cpy (I 10) (I 4) 0 0 8)) 5 (va_cpy ((m_row I 4 (va_cpy (I 10) (I 4) 0 0 8)) 11) ((m_row I 4 (va_cpy (I 10) (I 4) 0 0 8)) 5) 0 0 8)) 6 (va_cpy ((m_row (m_row I 4 (va_cpy (I 10) (I 4) 0 0 8)) 5 (va_cpy ((m_row I 4 (va_cpy (I 10) (I 4) 0 0 8)) 11) ((m_row I 4 (va_cpy (I 10) (I 4) 0 0 8)) 5) 0 0 8)) 12) ((m_row (m_row I 4 (va_cpy (I 10) (I 4) 0 0 8)) 5 (va_cpy ((m_row I 4 (va_cpy (I 10) (I 4) 0 0 8)) 11) ((m_row I 4 (va_cpy (I 10) (I 4) 0 0 8)) 5) 0 0 8)) 6) 0 0 8)) 13) ((m_row (m_row (m_row I 4 (va_cpy (I 10) (I 4) 0 0 8)) 5 (va_cpy ((m_row I 4 (va_cpy (I 10) (I 4) 0 0 8)) 11) ((m_row I 4 (va_cpy (I 10) (I 4) 0 0 8)) 5) 0 0 8)) 6 (va_cpy ((m_row (m_row I 4 (va_cpy (I 10) (I 4) 0 0 8)) 5 (va_cpy ((m_row I 4 (va_cpy (I 10) (I 4) 0 0 8)) 11) ((m_row I 4 (va_cpy (I 10) (I 4) 0 0 8)) 5) 0 0 8)) 12) ((m_row (m_row I 4 (va_cpy (I 10) (I 4) 0 0 8)) 5 (va_cpy ((m_row I 4 (va_cpy (I 10) (I 4) 0 0 8)) 11) ((m_row I 4 (va_cpy (I 10) (I 4) 0 0 8)) 5) 0 0 8)) 6) 0 0 8)) 7) 0 0 6)) 8) 0 0 6)) 3 5 ((m_row (m_row (m_row (m_row (m_row I 4 (va_cpy (I 10) (I 4) 0 0 8)) 5 (va_cpy ((m_row I 4 (va_cpy (I 10) (I 4) 0 0 8)) 11) ((m_row I 4 (va_cpy (I 10) (I 4) 0 0 8)) 5) 0 0 8)) 6 (va_cpy ((m_row (m_row I 4 (va_cpy (I 10) (I 4) 0 0 8)) 5 (va_cpy ((m_row I 4 (va_cpy (I 10) (I 4) 0 0 8)) 11) ((m_row I 4 (va_cpy (I 10) (I 4) 0 0 8)) 5) 0 0 8)) 12) ((m_row (m_row I 4 (va_cpy (I 10) (I 4) 0 0 8)) 5 (va_cpy ((m_row I 4 (va_cpy (I 10) (I 4) 0 0 8)) 11) ((m_row I 4 (va_cpy (I 10) (I 4) 0 0 8)) 5) 0 0 8)) 6) 0 0 8)) 7 (va_cpy ((m_row (m_row (m_row I 4 (va_cpy (I 10) (I 4) 0 0 8)) 5 (va_cpy ((m_row I 4 (va_cpy (I 10) (I 4) 0 0 8)) 11) ((m_row I 4 (va_cpy (I 10) (I 4) 0 0 8)) 5) 0 0 8)) 6 (va_cpy ((m_row (m_row I 4 (va_cpy (I 10) (I 4) 0 0 8)) 5 (va_cpy ((m_row I 4 (va_cpy (I 10) (I 4) 0 0 8)) 11) ((m_row I 4 (va_cpy (I 10) (I 4) 0 0 8)) 5) 0 0 8)) 12) ((m_row (m_row I 4 (va_cpy (I 10) (I 4) 0 0 8)) 5 (va_cpy ((m_row I 4 (va_cpy (I 10) (I 4) 0 0 8)) 11) ((m_row I 4 (va_cpy (I 10) (I 4) 0 0 8)) 5) 0 0 8)) 6) 0 0 8)) 13) ((m_row (m_row (m_row I 4 (va_cpy (I 10) (I 4) 0 0 8)) 5 (va_cpy ((m_row I 4 (va_cpy (I 10) (I 4) 0 0 8)) 11) ((m_row I 4 (va_cpy (I 10) (I 4) 0 0 8)) 5) 0 0 8)) 6 (va_cpy ((m_row (m_row I 4 (va_cpy (I 10) (I 4) 0 0 8)) 5 (va_cpy ((m_row I 4 (va_cpy (I 10) (I 4) 0 0 8)) 11) ((m_row I 4 (va_cpy (I 10) (I 4) 0 0 8)) 5) 0 0 8)) 12) ((m_row (m_row I 4 (va_cpy (I 10) (I 4) 0 0 8)) 5 (va_cpy ((m_row I 4 (va_cpy (I 10) (I 4) 0 0 8)) 11) ((m_row I 4 (va_cpy (I 10) (I 4) 0 0 8)) 5) 0 0 8)) 6) 0 0 8)) 7) 0 0 6)) 8 (va_cpy ((m_row (m_row (m_row (m_row I 4 (va_cpy (I 10) (I 4) 0 0 8)) 5 (va_cpy ((m_row I 4 (va_cpy (I 10) (I 4) 0 0 8)) 11) ((m_row I 4 (va_cpy (I 10) (I 4) 0 0 8)) 5) 0 0 8)) 6 (va_cpy ((m_row (m_row I 4 (va_cpy (I 10) (I 4) 0 0 8)) 5 (va_cpy ((m_row I 4 (va_cpy (I 10) (I 4) 0 0 8)) 11) ((m_row I 4 (va_cpy (I 10) (I 4) 0 0 8)) 5) 0 0 8)) 12) ((m_row (m_row I 4 (va_cpy (I 10) (I 4) 0 0 8)) 5 (va_cpy ((m_row I 4 (va_cpy (I 10) (I 4) 0 0 8)) 11) ((m_row I 4 (va_cpy (I 10) (I 4) 0 0 8)) 5) 0 0 8)) 6) 0 0 8)) 7 (va_cpy ((m_row (m_row (m_row I 4 (va_cpy (I 10) (I 4) 0 0 8)) 5 (va_cpy ((m_row I 4 (va_cpy (I 10) (I 4) 0 0 8)) 11) ((m_row I 4 (va_cpy (I 10) (I 4) 0 0 8)) 5) 0 0 8)) 6 (va_cpy ((m_row (m_row I 4 (va_cpy (I 10) (I 4) 0 0 8)) 5 (va_cpy ((m_row I 4 (va_cpy (I 10) (I 4) 0 0 8)) 11) ((m_row I 4 (va_cpy (I 10) (I 4) 0 0 8)) 5) 0 0 8)) 12) ((m_row (m_row I 4 (va_cpy (I 10) (I 4) 0 0 8)) 5 (va_cpy ((m_row I 4 (va_cpy (I 10) (I 4) 0 0 8)) 11) ((m_row I 4 (va_cpy (I 10) (I 4) 0 0 8)) 5) 0 0 8)) 6) 0 0 8)) 13) ((m_row (m_row (m_row I 4 (va_cpy (I 10) (I 4) 0 0 8)) 5 (va_cpy ((m_row I 4 (va_cpy (I 10) (I 4) 0 0 8)) 11) ((m_row I 4 (va_cpy (I 10) (I 4) 0 0 8)) 5) 0 0 8)) 6 (va_cpy ((m_row (m_row I 4 (va_cpy (I 10) (I 4) 0 0 8)) 5 (va_cpy ((m_row I 4 (va_cpy (I 10) (I 4) 0 0 8)) 11) ((m_row I 4 (va_cpy (I 10) (I 4) 0 0 8)) 5) 0 0 8)) 12) ((m_row (m_row I 4 (va_cpy (I 10) (I 4) 0 0 8)) 5 (va_cpy ((m_row I 4 (va_cpy (I 10) (I 4) 0 0 8)) 11) ((m_row I 4 (va_cpy (I 10) (I 4) 0 0 8)) 5) 0 0 8)) 6) 0 0 8)) 7) 0 0 6)) 14) ((m_row (m_row (m_row (m_row I 4 (va_cpy (I 10) (I 4) 0 0 8)) 5 (va_cpy ((m_row I 4 (va_cpy (I 10) (I 4) 0 0 8)) 11) ((m_row I 4 (va_cpy (I 10) (I 4) 0 0 8)) 5) 0 0 8)) 6 (va_cpy ((m_row (m_row I 4 (va_cpy (I 10) (I 4) 0 0 8)) 5 (va_cpy ((m_row I 4 (va_cpy (I 10) (I 4) 0 0 8)) 11) ((m_row I 4 (va_cpy (I 10) (I 4) 0 0 8)) 5) 0 0 8)) 12) ((m_row (m_row I 4 (va_cpy (I 10) (I 4) 0 0 8)) 5 (va_cpy ((m_row I 4 (va_cpy (I 10) (I 4) 0 0 8)) 11) ((m_row I 4 (va_cpy (I 10) (I 4) 0 0 8)) 5) 0 0 8)) 6) 0 0 8)) 7 (va_cpy ((m_row (m_row (m_row I 4 (va_cpy (I 10) (I 4) 0 0 8)) 5 (va_cpy ((m_row I 4 (va_cpy (I 10) (I 4) 0 0 8)) 11) ((m_row I 4 (va_cpy (I 10) (I 4) 0 0 8)) 5) 0 0 8)) 6 (va_cpy ((m_row (m_row I 4 (va_cpy (I 10) (I 4) 0 0 8)) 5 (va_cpy ((m_row I 4 (va_cpy (I 10) (I 4) 0 0 8)) 11) ((m_row I 4 (va_cpy (I 10) (I 4) 0 0 8)) 5) 0 0 8)) 12) ((m_row (m_row I 4 (va_cpy (I 10) (I 4) 0 0 8)) 5 (va_cpy ((m_row I 4 (va_cpy (I 10) (I 4) 0 0 8)) 11) ((m_row I 4 (va_cpy (I 10) (I 4) 0 0 8)) 5) 0 0 8)) 6) 0 0 8)) 13) ((m_row (m_row (m_row I 4 (va_cpy (I 10) (I 4) 0 0 8)) 5 (va_cpy ((m_row I 4 (va_cpy (I 10) (I 4) 0 0 8)) 11) ((m_row I 4 (va_cpy (I 10) (I 4) 0 0 8)) 5) 0 0 8)) 6 (va_cpy ((m_row (m_row I 4 (va_cpy (I 10) (I 4) 0 0 8)) 5 (va_cpy ((m_row I 4 (va_cpy (I 10) (I 4) 0 0 8)) 11) ((m_row I 4 (va_cpy (I 10) (I 4) 0 0 8)) 5) 0 0 8)) 12) ((m_row (m_row I 4 (va_cpy (I 10) (I 4) 0 0 8)) 5 (va_cpy ((m_row I 4 (va_cpy (I 10) (I 4) 0 0 8)) 11) ((m_row I 4 (va_cpy (I 10) (I 4) 0 0 8)) 5) 0 0 8)) 6) 0 0 8)) 7) 0 0 6)) 8) 0 0 6)) 9 5)) 9 6)) 3 7 ((m_up (m_up (m_row (m_row (m_row (m_row (m_row I 4 (va_cpy (I 10) (I 4) 0 0 8)) 5 (va_cpy ((m_row I 4 (va_cpy (I 10) (I 4) 0 0 8)) 11) ((m_row I 4 (va_cpy (I 10) (I 4) 0 0 8)) 5) 0 0 8)) 6 (va_cpy ((m_row (m_row I 4 (va_cpy (I 10) (I 4) 0 0 8)) 5 (va_cpy ((m_row I 4 (va_cpy (I 10) (I 4) 0 0 8)) 11) ((m_row I 4 (va_cpy (I 10) (I 4) 0 0 8)) 5) 0 0 8)) 12) ((m_row (m_row I 4 (va_cpy (I 10) (I 4) 0 0 8)) 5 (va_cpy ((m_row I 4 (va_cpy (I 10) (I 4) 0 0 8)) 11) ((m_row I 4 (va_cpy (I 10) (I 4) 0 0 8)) 5) 0 0 8)) 6) 0 0 8)) 7 (va_cpy ((m_row (m_row (m_row I 4 (va_cpy (I 10) (I 4) 0 0 8)) 5 (va_cpy ((m_row I 4 (va_cpy (I 10) (I 4) 0 0 8)) 11) ((m_row I 4 (va_cpy (I 10) (I 4) 0 0 8)) 5) 0 0 8)) 6 (va_cpy ((m_row (m_row I 4 (va_cpy (I 10) (I 4) 0 0 8)) 5 (va_cpy ((m_row I 4 (va_cpy (I 10) (I 4) 0 0 8)) 11) ((m_row I 4 (va_cpy (I 10) (I 4) 0 0 8)) 5) 0 0 8)) 12) ((m_row (m_row I 4 (va_cpy (I 10) (I 4) 0 0 8)) 5 (va_cpy ((m_row I 4 (va_cpy (I 10) (I 4) 0 0 8)) 11) ((m_row I 4 (va_cpy (I 10) (I 4) 0 0 8)) 5) 0 0 8)) 6) 0 0 8)) 13) ((m_row (m_row (m_row I 4 (va_cpy (I 10) (I 4) 0 0 8)) 5 (va_cpy ((m_row I 4 (va_cpy (I 10) (I 4) 0 0 8)) 11) ((m_row I 4 (va_cpy (I 10) (I 4) 0 0 8)) 5) 0 0 8)) 6 (va_cpy ((m_row (m_row I 4 (va_cpy (I 10) (I 4) 0 0 8)) 5 (va_cpy ((m_row I 4 (va_cpy (I 10) (I 4) 0 0 8)) 11) ((m_row I 4 (va_cpy (I 10) (I 4) 0 0 8)) 5) 0 0 8)) 12) ((m_row (m_row I 4 (va_cpy (I 10) (I 4) 0 0 8)) 5 (va_cpy ((m_row I 4 (va_cpy (I 10) (I 4) 0 0 8)) 11) ((m_row I 4 (va_cpy (I 10) (I 4) 0 0 8)) 5) 0 0 8)) 6) 0 0 8)) 7) 0 0 6)) 8 (va_cpy ((m_row (m_row (m_row (m_row I 4 (va_cpy (I 10) (I 4) 0 0 8)) 5 (va_cpy ((m_row I 4 (va_cpy (I 10) (I 4) 0 0 8)) 11) ((m_row I 4 (va_cpy (I 10) (I 4) 0 0 8)) 5) 0 0 8)) 6 (va_cpy ((m_row (m_row I 4 (va_cpy (I 10) (I 4) 0 0 8)) 5 (va_cpy ((m_row I 4 (va_cpy (I 10) (I 4) 0 0 8)) 11) ((m_row I 4 (va_cpy (I 10) (I 4) 0 0 8)) 5) 0 0 8)) 12) ((m_row (m_row I 4 (va_cpy (I 10) (I 4) 0 0 8)) 5 (va_cpy ((m_row I 4 (va_cpy (I 10) (I 4) 0 0 8)) 11) ((m_row I 4 (va_cpy (I 10) (I 4) 0 0 8)) 5) 0 0 8)) 6) 0 0 8)) 7 (va_cpy ((m_row (m_row (m_row I 4 (va_cpy (I 10) (I 4) 0 0 8)) 5 (va_cpy ((m_row I 4 (va_cpy (I 10) (I 4) 0 0 8)) 11) ((m_row I 4 (va_cpy (I 10) (I 4) 0 0 8)) 5) 0 0 8)) 6 (va_cpy ((m_row (m_row I 4 (va_cpy (I 10) (I 4) 0 0 8)) 5 (va_cpy ((m_row I 4 (va_cpy (I 10) (I 4) 0 0 8)) 11) ((m_row I 4 (va_cpy (I 10) (I 4) 0 0 8)) 5) 0 0 8)) 12) ((m_row (m_row I 4 (va_cpy (I 10) (I 4) 0 0 8)) 5 (va_cpy ((m_row I 4 (va_cpy (I 10) (I 4) 0 0 8)) 11) ((m_row I 4 (va_cpy (I 10) (I 4) 0 0 8)) 5) 0 0 8)) 6) 0 0 8)) 13) ((m_row (m_row (m_row I 4 (va_cpy (I 10) (I 4) 0 0 8)) 5 (va_cpy ((m_row I 4 (va_cpy (I 10) (I 4) 0 0 8)) 11) ((m_row I 4 (va_cpy (I 10) (I 4) 0 0 8)) 5) 0 0 8)) 6 (va_cpy ((m_row (m_row I 4 (va_cpy (I 10) (I 4) 0 0 8)) 5 (va_cpy ((m_row I 4 (va_cpy (I 10) (I 4) 0 0 8)) 11) ((m_row I 4 (va_cpy (I 10) (I 4) 0 0 8)) 5) 0 0 8)) 12) ((m_row (m_row I 4 (va_cpy (I 10) (I 4) 0 0 8)) 5 (va_cpy ((m_row I 4 (va_cpy (I 10) (I 4) 0 0 8)) 11) ((m_row I 4 (va_cpy (I 10) (I 4) 0 0 8)) 5) 0 0 8)) 6) 0 0 8)) 7) 0 0 6)) 14) ((m_row (m_row (m_row (m_row I 4 (va_cpy (I 10) (I 4) 0 0 8)) 5 (va_cpy ((m_row I 4 (va_cpy (I 10) (I 4) 0 0 8)) 11) ((m_row I 4 (va_cpy (I 10) (I 4) 0 0 8)) 5) 0 0 8)) 6 (va_cpy ((m_row (m_row I 4 (va_cpy (I 10) (I 4) 0 0 8)) 5 (va_cpy ((m_row I 4 (va_cpy (I 10) (I 4) 0 0 8)) 11) ((m_row I 4 (va_cpy (I 10) (I 4) 0 0 8)) 5) 0 0 8)) 12) ((m_row (m_row I 4 (va_cpy (I 10) (I 4) 0 0 8)) 5 (va_cpy ((m_row I 4 (va_cpy (I 10) (I 4) 0 0 8)) 11) ((m_row I 4 (va_cpy (I 10) (I 4) 0 0 8)) 5) 0 0 8)) 6) 0 0 8)) 7 (va_cpy ((m_row (m_row (m_row I 4 (va_cpy (I 10) (I 4) 0 0 8)) 5 (va_cpy ((m_row I 4 (va_cpy (I 10) (I 4) 0 0 8)) 11) ((m_row I 4 (va_cpy (I 10) (I 4) 0 0 8)) 5) 0 0 8)) 6 (va_cpy ((m_row (m_row I 4 (va_cpy (I 10) (I 4) 0 0 8)) 5 (va_cpy ((m_row I 4 (va_cpy (I 10) (I 4) 0 0 8)) 11) ((m_row I 4 (va_cpy (I 10) (I 4) 0 0 8)) 5) 0 0 8)) 12) ((m_row (m_row I 4 (va_cpy (I 10) (I 4) 0 0 8)) 5 (va_cpy ((m_row I 4 (va_cpy (I 10) (I 4) 0 0 8)) 11) ((m_row I 4 (va_cpy (I 10) (I 4) 0 0 8)) 5) 0 0 8)) 6) 0 0 8)) 13) ((m_row (m_row (m_row I 4 (va_cpy (I 10) (I 4) 0 0 8)) 5 (va_cpy ((m_row I 4 (va_cpy (I 10) (I 4) 0 0 8)) 11) ((m_row I 4 (va_cpy (I 10) (I 4) 0 0 8)) 5) 0 0 8)) 6 (va_cpy ((m_row (m_row I 4 (va_cpy (I 10) (I 4) 0 0 8)) 5 (va_cpy ((m_row I 4 (va_cpy (I 10) (I 4) 0 0 8)) 11) ((m_row I 4 (va_cpy (I 10) (I 4) 0 0 8)) 5) 0 0 8)) 12) ((m_row (m_row I 4 (va_cpy (I 10) (I 4) 0 0 8)) 5 (va_cpy ((m_row I 4 (va_cpy (I 10) (I 4) 0 0 8)) 11) ((m_row I 4 (va_cpy (I 10) (I 4) 0 0 8)) 5) 0 0 8)) 6) 0 0 8)) 7) 0 0 6)) 8) 0 0 6)) 3 5 ((m_row (m_row (m_row (m_row (m_row I 4 (va_cpy (I 10) (I 4) 0 0 8)) 5 (va_cpy ((m_row I 4 (va_cpy (I 10) (I 4) 0 0 8)) 11) ((m_row I 4 (va_cpy (I 10) (I 4) 0 0 8)) 5) 0 0 8)) 6 (va_cpy ((m_row (m_row I 4 (va_cpy (I 10) (I 4) 0 0 8)) 5 (va_cpy ((m_row I 4 (va_cpy (I 10) (I 4) 0 0 8)) 11) ((m_row I 4 (va_cpy (I 10) (I 4) 0 0 8)) 5) 0 0 8)) 12) ((m_row (m_row I 4 (va_cpy (I 10) (I 4) 0 0 8)) 5 (va_cpy ((m_row I 4 (va_cpy (I 10) (I 4) 0 0 8)) 11) ((m_row I 4 (va_cpy (I 10) (I 4) 0 0 8)) 5) 0 0 8)) 6) 0 0 8)) 7 (va_cpy ((m_row (m_row (m_row I 4 (va_cpy (I 10) (I 4) 0 0 8)) 5 (va_cpy ((m_row I 4 (va_cpy (I 10) (I 4) 0 0 8)) 11) ((m_row I 4 (va_cpy (I 10) (I 4) 0 0 8)) 5) 0 0 8)) 6 (va_cpy ((m_row (m_row I 4 (va_cpy (I 10) (I 4) 0 0 8)) 5 (va_cpy ((m_row I 4 (va_cpy (I 10) (I 4) 0 0 8)) 11) ((m_row I 4 (va_cpy (I 10) (I 4) 0 0 8)) 5) 0 0 8)) 12) ((m_row (m_row I 4 (va_cpy (I 10) (I 4) 0 0 8)) 5 (va_cpy ((m_row I 4 (va_cpy (I 10) (I 4) 0 0 8)) 11) ((m_row I 4 (va_cpy (I 10) (I 4) 0 0 8)) 5) 0 0 8)) 6) 0 0 8)) 13) ((m_row (m_row (m_row I 4 (va_cpy (I 10) (I 4) 0 0 8)) 5 (va_cpy ((m_row I 4 (va_cpy (I 10) (I 4) 0 0 8)) 11) ((m_row I 4 (va_cpy (I 10) (I 4) 0 0 8)) 5) 0 0 8)) 6 (va_cpy ((m_row (m_row I 4 (va_cpy (I 10) (I 4) 0 0 8)) 5 (va_cpy ((m_row I 4 (va_cpy (I 10) (I 4) 0 0 8)) 11) ((m_row I 4 (va_cpy (I 10) (I 4) 0 0 8)) 5) 0 0 8)) 12) ((m_row (m_row I 4 (va_cpy (I 10) (I 4) 0 0 8)) 5 (va_cpy ((m_row I 4 (va_cpy (I 10) (I 4) 0 0 8)) 11) ((m_row I 4 (va_cpy (I 10) (I 4) 0 0 8)) 5) 0 0 8)) 6) 0 0 8)) 7) 0 0 6)) 8 (va_cpy ((m_row (m_row (m_row (m_row I 4 (va_cpy (I 10) (I 4) 0 0 8)) 5 (va_cpy ((m_row I 4 (va_cpy (I 10) (I 4) 0 0 8)) 11) ((m_row I 4 (va_cpy (I 10) (I 4) 0 0 8)) 5) 0 0 8)) 6 (va_cpy ((m_row (m_row I 4 (va_cpy (I 10) (I 4) 0 0 8)) 5 (va_cpy ((m_row I 4 (va_cpy (I 10) (I 4) 0 0 8)) 11) ((m_row I 4 (va_cpy (I 10) (I 4) 0 0 8)) 5) 0 0 8)) 12) ((m_row (m_row I 4 (va_cpy (I 10) (I 4) 0 0 8)) 5 (va_cpy ((m_row I 4 (va_cpy (I 10) (I 4) 0 0 8)) 11) ((m_row I 4 (va_cpy (I 10) (I 4) 0 0 8)) 5) 0 0 8)) 6) 0 0 8)) 7 (va_cpy ((m_row (m_row (m_row I 4 (va_cpy (I 10) (I 4) 0 0 8)) 5 (va_cpy ((m_row I 4 (va_cpy (I 10) (I 4) 0 0 8)) 11) ((m_row I 4 (va_cpy (I 10) (I 4) 0 0 8)) 5) 0 0 8)) 6 (va_cpy ((m_row (m_row I 4 (va_cpy (I 10) (I 4) 0 0 8)) 5 (va_cpy ((m_row I 4 (va_cpy (I 10) (I 4) 0 0 8)) 11) ((m_row I 4 (va_cpy (I 10) (I 4) 0 0 8)) 5) 0 0 8)) 12) ((m_row (m_row I 4 (va_cpy (I 10) (I 4) 0 0 8)) 5 (va_cpy ((m_row I 4 (va_cpy (I 10) (I 4) 0 0 8)) 11) ((m_row I 4 (va_cpy (I 10) (I 4) 0 0 8)) 5) 0 0 8)) 6) 0 0 8)) 13) ((m_row (m_row (m_row I 4 (va_cpy (I 10) (I 4) 0 0 8)) 5 (va_cpy ((m_row I 4 (va_cpy (I 10) (I 4) 0 0 8)) 11) ((m_row I 4 (va_cpy (I 10) (I 4) 0 0 8)) 5) 0 0 8)) 6 (va_cpy ((m_row (m_row I 4 (va_cpy (I 10) (I 4) 0 0 8)) 5 (va_cpy ((m_row I 4 (va_cpy (I 10) (I 4) 0 0 8)) 11) ((m_row I 4 (va_cpy (I 10) (I 4) 0 0 8)) 5) 0 0 8)) 12) ((m_row (m_row I 4 (va_cpy (I 10) (I 4) 0 0 8)) 5 (va_cpy ((m_row I 4 (va_cpy (I 10) (I 4) 0 0 8)) 11) ((m_row I 4 (va_cpy (I 10) (I 4) 0 0 8)) 5) 0 0 8)) 6) 0 0 8)) 7) 0 0 6)) 14) ((m_row (m_row (m_row (m_row I 4 (va_cpy (I 10) (I 4) 0 0 8)) 5 (va_cpy ((m_row I 4 (va_cpy (I 10) (I 4) 0 0 8)) 11) ((m_row I 4 (va_cpy (I 10) (I 4) 0 0 8)) 5) 0 0 8)) 6 (va_cpy ((m_row (m_row I 4 (va_cpy (I 10) (I 4) 0 0 8)) 5 (va_cpy ((m_row I 4 (va_cpy (I 10) (I 4) 0 0 8)) 11) ((m_row I 4 (va_cpy (I 10) (I 4) 0 0 8)) 5) 0 0 8)) 12) ((m_row (m_row I 4 (va_cpy (I 10) (I 4) 0 0 8)) 5 (va_cpy ((m_row I 4 (va_cpy (I 10) (I 4) 0 0 8)) 11) ((m_row I 4 (va_cpy (I 10) (I 4) 0 0 8)) 5) 0 0 8)) 6) 0 0 8)) 7 (va_cpy ((m_row (m_row (m_row I 4 (va_cpy (I 10) (I 4) 0 0 8)) 5 (va_cpy ((m_row I 4 (va_cpy (I 10) (I 4) 0 0 8)) 11) ((m_row I 4 (va_cpy (I 10) (I 4) 0 0 8)) 5) 0 0 8)) 6 (va_cpy ((m_row (m_row I 4 (va_cpy (I 10) (I 4) 0 0 8)) 5 (va_cpy ((m_row I 4 (va_cpy (I 10) (I 4) 0 0 8)) 11) ((m_row I 4 (va_cpy (I 10) (I 4) 0 0 8)) 5) 0 0 8)) 12) ((m_row (m_row I 4 (va_cpy (I 10) (I 4) 0 0 8)) 5 (va_cpy ((m_row I 4 (va_cpy (I 10) (I 4) 0 0 8)) 11) ((m_row I 4 (va_cpy (I 10) (I 4) 0 0 8)) 5) 0 0 8)) 6) 0 0 8)) 13) ((m_row (m_row (m_row I 4 (va_cpy (I 10) (I 4) 0 0 8)) 5 (va_cpy ((m_row I 4 (va_cpy (I 10) (I 4) 0 0 8)) 11) ((m_row I 4 (va_cpy (I 10) (I 4) 0 0 8)) 5) 0 0 8)) 6 (va_cpy ((m_row (m_row I 4 (va_cpy (I 10) (I 4) 0 0 8)) 5 (va_cpy ((m_row I 4 (va_cpy (I 10) (I 4) 0 0 8)) 11) ((m_row I 4 (va_cpy (I 10) (I 4) 0 0 8)) 5) 0 0 8)) 12) ((m_row (m_row I 4 (va_cpy (I 10) (I 4) 0 0 8)) 5 (va_cpy ((m_row I 4 (va_cpy (I 10) (I 4) 0 0 8)) 11) ((m_row I 4 (va_cpy (I 10) (I 4) 0 0 8)) 5) 0 0 8)) 6) 0 0 8)) 7) 0 0 6)) 8) 0 0 6)) 9 5)) 3 6 ((m_up (m_row (m_row (m_row (m_row (m_row I 4 (va_cpy (I 10) (I 4) 0 0 8)) 5 (va_cpy ((m_row I 4 (va_cpy (I 10) (I 4) 0 0 8)) 11) ((m_row I 4 (va_cpy (I 10) (I 4) 0 0 8)) 5) 0 0 8)) 6 (va_cpy ((m_row (m_row I 4 (va_cpy (I 10) (I 4) 0 0 8)) 5 (va_cpy ((m_row I 4 (va_cpy (I 10) (I 4) 0 0 8)) 11) ((m_row I 4 (va_cpy (I 10) (I 4) 0 0 8)) 5) 0 0 8)) 12) ((m_row (m_row I 4 (va_cpy (I 10) (I 4) 0 0 8)) 5 (va_cpy ((m_row I 4 (va_cpy (I 10) (I 4) 0 0 8)) 11) ((m_row I 4 (va_cpy (I 10) (I 4) 0 0 8)) 5) 0 0 8)) 6) 0 0 8)) 7 (va_cpy ((m_row (m_row (m_row I 4 (va_cpy (I 10) (I 4) 0 0 8)) 5 (va_cpy ((m_row I 4 (va_cpy (I 10) (I 4) 0 0 8)) 11) ((m_row I 4 (va_cpy (I 10) (I 4) 0 0 8)) 5) 0 0 8)) 6 (va_cpy ((m_row (m_row I 4 (va_cpy (I 10) (I 4) 0 0 8)) 5 (va_cpy ((m_row I 4 (va_cpy (I 10) (I 4) 0 0 8)) 11) ((m_row I 4 (va_cpy (I 10) (I 4) 0 0 8)) 5) 0 0 8)) 12) ((m_row (m_row I 4 (va_cpy (I 10) (I 4) 0 0 8)) 5 (va_cpy ((m_row I 4 (va_cpy (I 10) (I 4) 0 0 8)) 11) ((m_row I 4 (va_cpy (I 10) (I 4) 0 0 8)) 5) 0 0 8)) 6) 0 0 8)) 13) ((m_row (m_row (m_row I 4 (va_cpy (I 10) (I 4) 0 0 8)) 5 (va_cpy ((m_row I 4 (va_cpy (I 10) (I 4) 0 0 8)) 11) ((m_row I 4 (va_cpy (I 10) (I 4) 0 0 8)) 5) 0 0 8)) 6 (va_cpy ((m_row (m_row I 4 (va_cpy (I 10) (I 4) 0 0 8)) 5 (va_cpy ((m_row I 4 (va_cpy (I 10) (I 4) 0 0 8)) 11) ((m_row I 4 (va_cpy (I 10) (I 4) 0 0 8)) 5) 0 0 8)) 12) ((m_row (m_row I 4 (va_cpy (I 10) (I 4) 0 0 8)) 5 (va_cpy ((m_row I 4 (va_cpy (I 10) (I 4) 0 0 8)) 11) ((m_row I 4 (va_cpy (I 10) (I 4) 0 0 8)) 5) 0 0 8)) 6) 0 0 8)) 7) 0 0 6)) 8 (va_cpy ((m_row (m_row (m_row (m_row I 4 (va_cpy (I 10) (I 4) 0 0 8)) 5 (va_cpy ((m_row I 4 (va_cpy (I 10) (I 4) 0 0 8)) 11) ((m_row I 4 (va_cpy (I 10) (I 4) 0 0 8)) 5) 0 0 8)) 6 (va_cpy ((m_row (m_row I 4 (va_cpy (I 10) (I 4) 0 0 8)) 5 (va_cpy ((m_row I 4 (va_cpy (I 10) (I 4) 0 0 8)) 11) ((m_row I 4 (va_cpy (I 10) (I 4) 0 0 8)) 5) 0 0 8)) 12) ((m_row (m_row I 4 (va_cpy (I 10) (I 4) 0 0 8)) 5 (va_cpy ((m_row I 4 (va_cpy (I 10) (I 4) 0 0 8)) 11) ((m_row I 4 (va_cpy (I 10) (I 4) 0 0 8)) 5) 0 0 8)) 6) 0 0 8)) 7 (va_cpy ((m_row (m_row (m_row I 4 (va_cpy (I 10) (I 4) 0 0 8)) 5 (va_cpy ((m_row I 4 (va_cpy (I 10) (I 4) 0 0 8)) 11) ((m_row I 4 (va_cpy (I 10) (I 4) 0 0 8)) 5) 0 0 8)) 6 (va_cpy ((m_row (m_row I 4 (va_cpy (I 10) (I 4) 0 0 8)) 5 (va_cpy ((m_row I 4 (va_cpy (I 10) (I 4) 0 0 8)) 11) ((m_row I 4 (va_cpy (I 10) (I 4) 0 0 8)) 5) 0 0 8)) 12) ((m_row (m_row I 4 (va_cpy (I 10) (I 4) 0 0 8)) 5 (va_cpy ((m_row I 4 (va_cpy (I 10) (I 4) 0 0 8)) 11) ((m_row I 4 (va_cpy (I 10) (I 4) 0 0 8)) 5) 0 0 8)) 6) 0 0 8)) 13) ((m_row (m_row (m_row I 4 (va_cpy (I 10) (I 4) 0 0 8)) 5 (va_cpy ((m_row I 4 (va_cpy (I 10) (I 4) 0 0 8)) 11) ((m_row I 4 (va_cpy (I 10) (I 4) 0 0 8)) 5) 0 0 8)) 6 (va_cpy ((m_row (m_row I 4 (va_cpy (I 10) (I 4) 0 0 8)) 5 (va_cpy ((m_row I 4 (va_cpy (I 10) (I 4) 0 0 8)) 11) ((m_row I 4 (va_cpy (I 10) (I 4) 0 0 8)) 5) 0 0 8)) 12) ((m_row (m_row I 4 (va_cpy (I 10) (I 4) 0 0 8)) 5 (va_cpy ((m_row I 4 (va_cpy (I 10) (I 4) 0 0 8)) 11) ((m_row I 4 (va_cpy (I 10) (I 4) 0 0 8)) 5) 0 0 8)) 6) 0 0 8)) 7) 0 0 6)) 14) ((m_row (m_row (m_row (m_row I 4 (va_cpy (I 10) (I 4) 0 0 8)) 5 (va_cpy ((m_row I 4 (va_cpy (I 10) (I 4) 0 0 8)) 11) ((m_row I 4 (va_cpy (I 10) (I 4) 0 0 8)) 5) 0 0 8)) 6 (va_cpy ((m_row (m_row I 4 (va_cpy (I 10) (I 4) 0 0 8)) 5 (va_cpy ((m_row I 4 (va_cpy (I 10) (I 4) 0 0 8)) 11) ((m_row I 4 (va_cpy (I 10) (I 4) 0 0 8)) 5) 0 0 8)) 12) ((m_row (m_row I 4 (va_cpy (I 10) (I 4) 0 0 8)) 5 (va_cpy ((m_row I 4 (va_cpy (I 10) (I 4) 0 0 8)) 11) ((m_row I 4 (va_cpy (I 10) (I 4) 0 0 8)) 5) 0 0 8)) 6) 0 0 8)) 7 (va_cpy ((m_row (m_row (m_row I 4 (va_cpy (I 10) (I 4) 0 0 8)) 5 (va_cpy ((m_row I 4 (va_cpy (I 10) (I 4) 0 0 8)) 11) ((m_row I 4 (va_cpy (I 10) (I 4) 0 0 8)) 5) 0 0 8)) 6 (va_cpy ((m_row (m_row I 4 (va_cpy (I 10) (I 4) 0 0 8)) 5 (va_cpy ((m_row I 4 (va_cpy (I 10) (I 4) 0 0 8)) 11) ((m_row I 4 (va_cpy (I 10) (I 4) 0 0 8)) 5) 0 0 8)) 12) ((m_row (m_row I 4 (va_cpy (I 10) (I 4) 0 0 8)) 5 (va_cpy ((m_row I 4 (va_cpy (I 10) (I 4) 0 0 8)) 11) ((m_row I 4 (va_cpy (I 10) (I 4) 0 0 8)) 5) 0 0 8)) 6) 0 0 8)) 13) ((m_row (m_row (m_row I 4 (va_cpy (I 10) (I 4) 0 0 8)) 5 (va_cpy ((m_row I 4 (va_cpy (I 10) (I 4) 0 0 8)) 11) ((m_row I 4 (va_cpy (I 10) (I 4) 0 0 8)) 5) 0 0 8)) 6 (va_cpy ((m_row (m_row I 4 (va_cpy (I 10) (I 4) 0 0 8)) 5 (va_cpy ((m_row I 4 (va_cpy (I 10) (I 4) 0 0 8)) 11) ((m_row I 4 (va_cpy (I 10) (I 4) 0 0 8)) 5) 0 0 8)) 12) ((m_row (m_row I 4 (va_cpy (I 10) (I 4) 0 0 8)) 5 (va_cpy ((m_row I 4 (va_cpy (I 10) (I 4) 0 0 8)) 11) ((m_row I 4 (va_cpy (I 10) (I 4) 0 0 8)) 5) 0 0 8)) 6) 0 0 8)) 7) 0 0 6)) 8) 0 0 6)) 3 5 ((m_row (m_row (m_row (m_row (m_row I 4 (va_cpy (I 10) (I 4) 0 0 8)) 5 (va_cpy ((m_row I 4 (va_cpy (I 10) (I 4) 0 0 8)) 11) ((m_row I 4 (va_cpy (I 10) (I 4) 0 0 8)) 5) 0 0 8)) 6 (va_cpy ((m_row (m_row I 4 (va_cpy (I 10) (I 4) 0 0 8)) 5 (va_cpy ((m_row I 4 (va_cpy (I 10) (I 4) 0 0 8)) 11) ((m_row I 4 (va_cpy (I 10) (I 4) 0 0 8)) 5) 0 0 8)) 12) ((m_row (m_row I 4 (va_cpy (I 10) (I 4) 0 0 8)) 5 (va_cpy ((m_row I 4 (va_cpy (I 10) (I 4) 0 0 8)) 11) ((m_row I 4 (va_cpy (I 10) (I 4) 0 0 8)) 5) 0 0 8)) 6) 0 0 8)) 7 (va_cpy ((m_row (m_row (m_row I 4 (va_cpy (I 10) (I 4) 0 0 8)) 5 (va_cpy ((m_row I 4 (va_cpy (I 10) (I 4) 0 0 8)) 11) ((m_row I 4 (va_cpy (I 10) (I 4) 0 0 8)) 5) 0 0 8)) 6 (va_cpy ((m_row (m_row I 4 (va_cpy (I 10) (I 4) 0 0 8)) 5 (va_cpy ((m_row I 4 (va_cpy (I 10) (I 4) 0 0 8)) 11) ((m_row I 4 (va_cpy (I 10) (I 4) 0 0 8)) 5) 0 0 8)) 12) ((m_row (m_row I 4 (va_cpy (I 10) (I 4) 0 0 8)) 5 (va_cpy ((m_row I 4 (va_cpy (I 10) (I 4) 0 0 8)) 11) ((m_row I 4 (va_cpy (I 10) (I 4) 0 0 8)) 5) 0 0 8)) 6) 0 0 8)) 13) ((m_row (m_row (m_row I 4 (va_cpy (I 10) (I 4) 0 0 8)) 5 (va_cpy ((m_row I 4 (va_cpy (I 10) (I 4) 0 0 8)) 11) ((m_row I 4 (va_cpy (I 10) (I 4) 0 0 8)) 5) 0 0 8)) 6 (va_cpy ((m_row (m_row I 4 (va_cpy (I 10) (I 4) 0 0 8)) 5 (va_cpy ((m_row I 4 (va_cpy (I 10) (I 4) 0 0 8)) 11) ((m_row I 4 (va_cpy (I 10) (I 4) 0 0 8)) 5) 0 0 8)) 12) ((m_row (m_row I 4 (va_cpy (I 10) (I 4) 0 0 8)) 5 (va_cpy ((m_row I 4 (va_cpy (I 10) (I 4) 0 0 8)) 11) ((m_row I 4 (va_cpy (I 10) (I 4) 0 0 8)) 5) 0 0 8)) 6) 0 0 8)) 7) 0 0 6)) 8 (va_cpy ((m_row (m_row (m_row (m_row I 4 (va_cpy (I 10) (I 4) 0 0 8)) 5 (va_cpy ((m_row I 4 (va_cpy (I 10) (I 4) 0 0 8)) 11) ((m_row I 4 (va_cpy (I 10) (I 4) 0 0 8)) 5) 0 0 8)) 6 (va_cpy ((m_row (m_row I 4 (va_cpy (I 10) (I 4) 0 0 8)) 5 (va_cpy ((m_row I 4 (va_cpy (I 10) (I 4) 0 0 8)) 11) ((m_row I 4 (va_cpy (I 10) (I 4) 0 0 8)) 5) 0 0 8)) 12) ((m_row (m_row I 4 (va_cpy (I 10) (I 4) 0 0 8)) 5 (va_cpy ((m_row I 4 (va_cpy (I 10) (I 4) 0 0 8)) 11) ((m_row I 4 (va_cpy (I 10) (I 4) 0 0 8)) 5) 0 0 8)) 6) 0 0 8)) 7 (va_cpy ((m_row (m_row (m_row I 4 (va_cpy (I 10) (I 4) 0 0 8)) 5 (va_cpy ((m_row I 4 (va_cpy (I 10) (I 4) 0 0 8)) 11) ((m_row I 4 (va_cpy (I 10) (I 4) 0 0 8)) 5) 0 0 8)) 6 (va_cpy ((m_row (m_row I 4 (va_cpy (I 10) (I 4) 0 0 8)) 5 (va_cpy ((m_row I 4 (va_cpy (I 10) (I 4) 0 0 8)) 11) ((m_row I 4 (va_cpy (I 10) (I 4) 0 0 8)) 5) 0 0 8)) 12) ((m_row (m_row I 4 (va_cpy (I 10) (I 4) 0 0 8)) 5 (va_cpy ((m_row I 4 (va_cpy (I 10) (I 4) 0 0 8)) 11) ((m_row I 4 (va_cpy (I 10) (I 4) 0 0 8)) 5) 0 0 8)) 6) 0 0 8)) 13) ((m_row (m_row (m_row I 4 (va_cpy (I 10) (I 4) 0 0 8)) 5 (va_cpy ((m_row I 4 (va_cpy (I 10) (I 4) 0 0 8)) 11) ((m_row I 4 (va_cpy (I 10) (I 4) 0 0 8)) 5) 0 0 8)) 6 (va_cpy ((m_row (m_row I 4 (va_cpy (I 10) (I 4) 0 0 8)) 5 (va_cpy ((m_row I 4 (va_cpy (I 10) (I 4) 0 0 8)) 11) ((m_row I 4 (va_cpy (I 10) (I 4) 0 0 8)) 5) 0 0 8)) 12) ((m_row (m_row I 4 (va_cpy (I 10) (I 4) 0 0 8)) 5 (va_cpy ((m_row I 4 (va_cpy (I 10) (I 4) 0 0 8)) 11) ((m_row I 4 (va_cpy (I 10) (I 4) 0 0 8)) 5) 0 0 8)) 6) 0 0 8)) 7) 0 0 6)) 14) ((m_row (m_row (m_row (m_row I 4 (va_cpy (I 10) (I 4) 0 0 8)) 5 (va_cpy ((m_row I 4 (va_cpy (I 10) (I 4) 0 0 8)) 11) ((m_row I 4 (va_cpy (I 10) (I 4) 0 0 8)) 5) 0 0 8)) 6 (va_cpy ((m_row (m_row I 4 (va_cpy (I 10) (I 4) 0 0 8)) 5 (va_cpy ((m_row I 4 (va_cpy (I 10) (I 4) 0 0 8)) 11) ((m_row I 4 (va_cpy (I 10) (I 4) 0 0 8)) 5) 0 0 8)) 12) ((m_row (m_row I 4 (va_cpy (I 10) (I 4) 0 0 8)) 5 (va_cpy ((m_row I 4 (va_cpy (I 10) (I 4) 0 0 8)) 11) ((m_row I 4 (va_cpy (I 10) (I 4) 0 0 8)) 5) 0 0 8)) 6) 0 0 8)) 7 (va_cpy ((m_row (m_row (m_row I 4 (va_cpy (I 10) (I 4) 0 0 8)) 5 (va_cpy ((m_row I 4 (va_cpy (I 10) (I 4) 0 0 8)) 11) ((m_row I 4 (va_cpy (I 10) (I 4) 0 0 8)) 5) 0 0 8)) 6 (va_cpy ((m_row (m_row I 4 (va_cpy (I 10) (I 4) 0 0 8)) 5 (va_cpy ((m_row I 4 (va_cpy (I 10) (I 4) 0 0 8)) 11) ((m_row I 4 (va_cpy (I 10) (I 4) 0 0 8)) 5) 0 0 8)) 12) ((m_row (m_row I 4 (va_cpy (I 10) (I 4) 0 0 8)) 5 (va_cpy ((m_row I 4 (va_cpy (I 10) (I 4) 0 0 8)) 11) ((m_row I 4 (va_cpy (I 10) (I 4) 0 0 8)) 5) 0 0 8)) 6) 0 0 8)) 13) ((m_row (m_row (m_row I 4 (va_cpy (I 10) (I 4) 0 0 8)) 5 (va_cpy ((m_row I 4 (va_cpy (I 10) (I 4) 0 0 8)) 11) ((m_row I 4 (va_cpy (I 10) (I 4) 0 0 8)) 5) 0 0 8)) 6 (va_cpy ((m_row (m_row I 4 (va_cpy (I 10) (I 4) 0 0 8)) 5 (va_cpy ((m_row I 4 (va_cpy (I 10) (I 4) 0 0 8)) 11) ((m_row I 4 (va_cpy (I 10) (I 4) 0 0 8)) 5) 0 0 8)) 12) ((m_row (m_row I 4 (va_cpy (I 10) (I 4) 0 0 8)) 5 (va_cpy ((m_row I 4 (va_cpy (I 10) (I 4) 0 0 8)) 11) ((m_row I 4 (va_cpy (I 10) (I 4) 0 0 8)) 5) 0 0 8)) 6) 0 0 8)) 7) 0 0 6)) 8) 0 0 6)) 9 5)) 9 6)) 9 7)) T
theorem s_House_copyFrom_3_0 {E : MEnv} {I : II} {T : TT} {Q : QQ} (hq : t_House_copyFrom_3_0 E I T Q) : ev E 54 0 [some (.ref 3), some (.ref 9)] [] I T Q := by
  unfold t_House_copyFrom_3_0 at hq
  refine ev_seq 52 (ip' := 52) (loc' := [some (.ref 3), some (.ref 9)]) (st' := []) (I1 := m_up (m_up (m_up (m_row (m_row (m_row (m_row (m_row I 4 (va_cpy (I 10) (I 4) 0 0 8)) 5 (va_cpy ((m_row I 4 (va_cpy (I 10) (I 4) 0 0 8)) 11) ((m_row I 4 (va_cpy (I 10) (I 4) 0 0 8)) 5) 0 0 8)) 6 (va_cpy ((m_row (m_row I 4 (va_cpy (I 10) (I 4) 0 0 8)) 5 (va_cpy ((m_row I 4 (va_cpy (I 10) (I 4) 0 0 8)) 11) ((m_row I 4 (va_cpy (I 10) (I 4) 0 0 8)) 5) 0 0 8)) 12) ((m_row (m_row I 4 (va_cpy (I 10) (I 4) 0 0 8)) 5 (va_cpy ((m_row I 4 (va_cpy (I 10) (I 4) 0 0 8)) 11) ((m_row I 4 (va_cpy (I 10) (I 4) 0 0 8)) 5) 0 0 8)) 6) 0 0 8)) 7 (va_cpy ((m_row (m_row (m_row I 4 (va_cpy (I 10) (I 4) 0 0 8)) 5 (va_cpy ((m_row I 4 (va_cpy (I 10) (I 4) 0 0 8)) 11) ((m_row I 4 (va_cpy (I 10) (I 4) 0 0 8)) 5) 0 0 8)) 6 (va_cpy ((m_row (m_row I 4 (va_cpy (I 10) (I 4) 0 0 8)) 5 (va_cpy ((m_row I 4 (va_cpy (I 10) (I 4) 0 0 8)) 11) ((m_row I 4 (va_cpy (I 10) (I 4) 0 0 8)) 5) 0 0 8)) 12) ((m_row (m_row I 4 (va_cpy (I 10) (I 4) 0 0 8)) 5 (va_cpy ((m_row I 4 (va_cpy (I 10) (I 4) 0 0 8)) 11) ((m_row I 4 (va_cpy (I 10) (I 4) 0 0 8)) 5) 0 0 8)) 6) 0 0 8)) 13) ((m_row (m_row (m_row I 4 (va_cpy (I 10) (I 4) 0 0 8)) 5 (va_cpy ((m_row I 4 (va_cpy (I 10) (I 4) 0 0 8)) 11) ((m_row I 4 (va_cpy (I 10) (I 4) 0 0 8)) 5) 0 0 8)) 6 (va_cpy ((m_row (m_row I 4 (va_cpy (I 10) (I 4) 0 0 8)) 5 (va_cpy ((m_row I 4 (va_cpy (I 10) (I 4) 0 0 8)) 11) ((m_row I 4 (va_cpy (I 10) (I 4) 0 0 8)) 5) 0 0 8)) 12) ((m_row (m_row I 4 (va_cpy (I 10) (I 4) 0 0 8)) 5 (va_cpy ((m_row I 4 (va_cpy (I 10) (I 4) 0 0 8)) 11) ((m_row I 4 (va_cpy (I 10) (I 4) 0 0 8)) 5) 0 0 8)) 6) 0 0 8)) 7) 0 0 6)) 8 (va_cpy ((m_row (m_row (m_row (m_row I 4 (va_cpy (I 10) (I 4) 0 0 8)) 5 (va_cpy ((m_row I 4 (va_cpy (I 10) (I 4) 0 0 8)) 11) ((m_row I 4 (va_cpy (I 10) (I 4) 0 0 8)) 5) 0 0 8)) 6 (va_cpy ((m_row (m_row I 4 (va_cpy (I 10) (I 4) 0 0 8)) 5 (va_cpy ((m_row I 4 (va_cpy (I 10) (I 4) 0 0 8)) 11) ((m_row I 4 (va_cpy (I 10) (I 4) 0 0 8)) 5) 0 0 8)) 12) ((m_row (m_row I 4 (va_cpy (I 10) (I 4) 0 0 8)) 5 (va_cpy ((m_row I 4 (va_cpy (I 10) (I 4) 0 0 8)) 11) ((m_row I 4 (va_cpy (I 10) (I 4) 0 0 8)) 5) 0 0 8)) 6) 0 0 8)) 7 (va_cpy ((m_row (m_row (m_row I 4 (va_cpy (I 10) (I 4) 0 0 8)) 5 (va_cpy ((m_row I 4 (va_cpy (I 10) (I 4) 0 0 8)) 11) ((m_row I 4 (va_cpy (I 10) (I 4) 0 0 8)) 5) 0 0 8)) 6 (va_cpy ((m_row (m_row I 4 (va_cpy (I 10) (I 4) 0 0 8)) 5 (va_cpy ((m_row I 4 (va_cpy (I 10) (I 4) 0 0 8)) 11) ((m_row I 4 (va_cpy (I 10) (I 4) 0 0 8)) 5) 0 0 8)) 12) ((m_row (m_row I 4 (va_cpy (I 10) (I 4) 0 0 8)) 5 (va_cpy ((m_row I 4 (va_cpy (I 10) (I 4) 0 0 8)) 11) ((m_row I 4 (va_cpy (I 10) (I 4) 0 0 8)) 5) 0 0 8)) 6) 0 0 8)) 13) ((m_row (m_row (m_row I 4 (va_cpy (I 10) (I 4) 0 0 8)) 5 (va_cpy ((m_row I 4 (va_cpy (I 10) (I 4) 0 0 8)) 11) ((m_row I 4 (va_cpy (I 10) (I 4) 0 0 8)) 5) 0 0 8)) 6 (va_cpy ((m_row (m_row I 4 (va_cpy (I 10) (I 4) 0 0 8)) 5 (va_cpy ((m_row I 4 (va_cpy (I 10) (I 4) 0 0 8)) 11) ((m_row I 4 (va_cpy (I 10) (I 4) 0 0 8)) 5) 0 0 8)) 12) ((m_row (m_row I 4 (va_cpy (I 10) (I 4) 0 0 8)) 5 (va_cpy ((m_row I 4 (va_cpy (I 10) (I 4) 0 0 8)) 11) ((m_row I 4 (va_cpy (I 10) (I 4) 0 0 8)) 5) 0 0 8)) 6) 0 0 8)) 7) 0 0 6)) 14) ((m_row (m_row (m_row (m_row I 4 (va_cpy (I 10) (I 4) 0 0 8)) 5 (va_cpy ((m_row I 4 (va_cpy (I 10) (I 4) 0 0 8)) 11) ((m_row I 4 (va_cpy (I 10) (I 4) 0 0 8)) 5) 0 0 8)) 6 (va_cpy ((m_row (m_row I 4 (va_cpy (I 10) (I 4) 0 0 8)) 5 (va_cpy ((m_row I 4 (va_cpy (I 10) (I 4) 0 0 8)) 11) ((m_row I 4 (va_cpy (I 10) (I 4) 0 0 8)) 5) 0 0 8)) 12) ((m_row (m_row I 4 (va_cpy (I 10) (I 4) 0 0 8)) 5 (va_cpy ((m_row I 4 (va_cpy (I 10) (I 4) 0 0 8)) 11) ((m_row I 4 (va_cpy (I 10) (I 4) 0 0 8)) 5) 0 0 8)) 6) 0 0 8)) 7 (va_cpy ((m_row (m_row (m_row I 4 (va_cpy (I 10) (I 4) 0 0 8)) 5 (va_cpy ((m_row I 4 (va_cpy (I 10) (I 4) 0 0 8)) 11) ((m_row I 4 (va_cpy (I 10) (I 4) 0 0 8)) 5) 0 0 8)) 6 (va_cpy ((m_row (m_row I 4 (va_cpy (I 10) (I 4) 0 0 8)) 5 (va_cpy ((m_row I 4 (va_cpy (I 10) (I 4) 0 0 8)) 11) ((m_row I 4 (va_cpy (I 10) (I 4) 0 0 8)) 5) 0 0 8)) 12) ((m_row (m_row I 4 (va_cpy (I 10) (I 4) 0 0 8)) 5 (va_cpy ((m_row I 4 (va_cpy (I 10) (I 4) 0 0 8)) 11) ((m_row I 4 (va_cpy (I 10) (I 4) 0 0 8)) 5) 0 0 8)) 6) 0 0 8)) 13) ((m_row (m_row (m_row I 4 (va_cpy (I 10) (I 4) 0 0 8)) 5 (va_cpy ((m_row I 4 (va_cpy (I 10) (I 4) 0 0 8)) 11) ((m_row I 4 (va_cpy (I 10) (I 4) 0 0 8)) 5) 0 0 8)) 6 (va_cpy ((m_row (m_row I 4 (va_cpy (I 10) (I 4) 0 0 8)) 5 (va_cpy ((m_row I 4 (va_cpy (I 10) (I 4) 0 0 8)) 11) ((m_row I 4 (va_cpy (I 10) (I 4) 0 0 8)) 5) 0 0 8)) 12) ((m_row (m_row I 4 (va_cpy (I 10) (I 4) 0 0 8)) 5 (va_cpy ((m_row I 4 (va_cpy (I 10) (I 4) 0 0 8)) 11) ((m_row I 4 (va_cpy (I 10) (I 4) 0 0 8)) 5) 0 0 8)) 6) 0 0 8)) 7) 0 0 6)) 8) 0 0 6)) 3 5 ((m_row (m_row (m_row (m_row (m_row I 4 (va_cpy (I 10) (I 4) 0 0 8)) 5 (va_cpy ((m_row I 4 (va_cpy (I 10) (I 4) 0 0 8)) 11) ((m_row I 4 (va_cpy (I 10) (I 4) 0 0 8)) 5) 0 0 8)) 6 (va_cpy ((m_row (m_row I 4 (va_cpy (I 10) (I 4) 0 0 8)) 5 (va_cpy ((m_row I 4 (va_cpy (I 10) (I 4) 0 0 8)) 11) ((m_row I 4 (va_cpy (I 10) (I 4) 0 0 8)) 5) 0 0 8)) 12) ((m_row (m_row I 4 (va_cpy (I 10) (I 4) 0 0 8)) 5 (va_cpy ((m_row I 4 (va_cpy (I 10) (I 4) 0 0 8)) 11) ((m_row I 4 (va_cpy (I 10) (I 4) 0 0 8)) 5) 0 0 8)) 6) 0 0 8)) 7 (va_cpy ((m_row (m_row (m_row I 4 (va_cpy (I 10) (I 4) 0 0 8)) 5 (va_cpy ((m_row I 4 (va_cpy (I 10) (I 4) 0 0 8)) 11) ((m_row I 4 (va_cpy (I 10) (I 4) 0 0 8)) 5) 0 0 8)) 6 (va_cpy ((m_row (m_row I 4 (va_cpy (I 10) (I 4) 0 0 8)) 5 (va_cpy ((m_row I 4 (va_cpy (I 10) (I 4) 0 0 8)) 11) ((m_row I 4 (va_cpy (I 10) (I 4) 0 0 8)) 5) 0 0 8)) 12) ((m_row (m_row I 4 (va_cpy (I 10) (I 4) 0 0 8)) 5 (va_cpy ((m_row I 4 (va_cpy (I 10) (I 4) 0 0 8)) 11) ((m_row I 4 (va_cpy (I 10) (I 4) 0 0 8)) 5) 0 0 8)) 6) 0 0 8)) 13) ((m_row (m_row (m_row I 4 (va_cpy (I 10) (I 4) 0 0 8)) 5 (va_cpy ((m_row I 4 (va_cpy (I 10) (I 4) 0 0 8)) 11) ((m_row I 4 (va_cpy (I 10) (I 4) 0 0 8)) 5) 0 0 8)) 6 (va_cpy ((m_row (m_row I 4 (va_cpy (I 10) (I 4) 0 0 8)) 5 (va_cpy ((m_row I 4 (va_cpy (I 10) (I 4) 0 0 8)) 11) ((m_row I 4 (va_cpy (I 10) (I 4) 0 0 8)) 5) 0 0 8)) 12) ((m_row (m_row I 4 (va_cpy (I 10) (I 4) 0 0 8)) 5 (va_cpy ((m_row I 4 (va_cpy (I 10) (I 4) 0 0 8)) 11) ((m_row I 4 (va_cpy (I 10) (I 4) 0 0 8)) 5) 0 0 8)) 6) 0 0 8)) 7) 0 0 6)) 8 (va_cpy ((m_row (m_row (m_row (m_row I 4 (va_cpy (I 10) (I 4) 0 0 8)) 5 (va_cpy ((m_row I 4 (va_cpy (I 10) (I 4) 0 0 8)) 11) ((m_row I 4 (va_cpy (I 10) (I 4) 0 0 8)) 5) 0 0 8)) 6 (va_cpy ((m_row (m_row I 4 (va_cpy (I 10) (I 4) 0 0 8)) 5 (va_cpy ((m_row I 4 (va_cpy (I 10) (I 4) 0 0 8)) 11) ((m_row I 4 (va_cpy (I 10) (I 4) 0 0 8)) 5) 0 0 8)) 12) ((m_row (m_row I 4 (va_cpy (I 10) (I 4) 0 0 8)) 5 (va_cpy ((m_row I 4 (va_cpy (I 10) (I 4) 0 0 8)) 11) ((m_row I 4 (va_cpy (I 10) (I 4) 0 0 8)) 5) 0 0 8)) 6) 0 0 8)) 7 (va_cpy ((m_row (m_row (m_row I 4 (va_cpy (I 10) (I 4) 0 0 8)) 5 (va_cpy ((m_row I 4 (va_cpy (I 10) (I 4) 0 0 8)) 11) ((m_row I 4 (va_cpy (I 10) (I 4) 0 0 8)) 5) 0 0 8)) 6 (va_cpy ((m_row (m_row I 4 (va_cpy (I 10) (I 4) 0 0 8)) 5 (va_cpy ((m_row I 4 (va_cpy (I 10) (I 4) 0 0 8)) 11) ((m_row I 4 (va_cpy (I 10) (I 4) 0 0 8)) 5) 0 0 8)) 12) ((m_row (m_row I 4 (va_cpy (I 10) (I 4) 0 0 8)) 5 (va_cpy ((m_row I 4 (va_cpy (I 10) (I 4) 0 0 8)) 11) ((m_row I 4 (va_cpy (I 10) (I 4) 0 0 8)) 5) 0 0 8)) 6) 0 0 8)) 13) ((m_row (m_row (m_row I 4 (va_cpy (I 10) (I 4) 0 0 8)) 5 (va_cpy ((m_row I 4 (va_cpy (I 10) (I 4) 0 0 8)) 11) ((m_row I 4 (va_cpy (I 10) (I 4) 0 0 8)) 5) 0 0 8)) 6 (va_cpy ((m_row (m_row I 4 (va_cpy (I 10) (I 4) 0 0 8)) 5 (va_cpy ((m_row I 4 (va_cpy (I 10) (I 4) 0 0 8)) 11) ((m_row I 4 (va_cpy (I 10) (I 4) 0 0 8)) 5) 0 0 8)) 12) ((m_row (m_row I 4 (va_cpy (I 10) (I 4) 0 0 8)) 5 (va_cpy ((m_row I 4 (va_cpy (I 10) (I 4) 0 0 8)) 11) ((m_row I 4 (va_cpy (I 10) (I 4) 0 0 8)) 5) 0 0 8)) 6) 0 0 8)) 7) 0 0 6)) 14) ((m_row (m_row (m_row (m_row I 4 (va_cpy (I 10) (I 4) 0 0 8)) 5 (va_cpy ((m_row I 4 (va_cpy (I 10) (I 4) 0 0 8)) 11) ((m_row I 4 (va_cpy (I 10) (I 4) 0 0 8)) 5) 0 0 8)) 6 (va_cpy ((m_row (m_row I 4 (va_cpy (I 10) (I 4) 0 0 8)) 5 (va_cpy ((m_row I 4 (va_cpy (I 10) (I 4) 0 0 8)) 11) ((m_row I 4 (va_cpy (I 10) (I 4) 0 0 8)) 5) 0 0 8)) 12) ((m_row (m_row I 4 (va_cpy (I 10) (I 4) 0 0 8)) 5 (va_cpy ((m_row I 4 (va_cpy (I 10) (I 4) 0 0 8)) 11) ((m_row I 4 (va_cpy (I 10) (I 4) 0 0 8)) 5) 0 0 8)) 6) 0 0 8)) 7 (va_cpy ((m_row (m_row (m_row I 4 (va_cpy (I 10) (I 4) 0 0 8)) 5 (va_cpy ((m_row I 4 (va_cpy (I 10) (I 4) 0 0 8)) 11) ((m_row I 4 (va_cpy (I 10) (I 4) 0 0 8)) 5) 0 0 8)) 6 (va_cpy ((m_row (m_row I 4 (va_cpy (I 10) (I 4) 0 0 8)) 5 (va_cpy ((m_row I 4 (va_cpy (I 10) (I 4) 0 0 8)) 11) ((m_row I 4 (va_cpy (I 10) (I 4) 0 0 8)) 5) 0 0 8)) 12) ((m_row (m_row I 4 (va_cpy (I 10) (I 4) 0 0 8)) 5 (va_cpy ((m_row I 4 (va_cpy (I 10) (I 4) 0 0 8)) 11) ((m_row I 4 (va_cpy (I 10) (I 4) 0 0 8)) 5) 0 0 8)) 6) 0 0 8)) 13) ((m_row (m_row (m_row I 4 (va_cpy (I 10) (I 4) 0 0 8)) 5 (va_cpy ((m_row I 4 (va_cpy (I 10) (I 4) 0 0 8)) 11) ((m_row I 4 (va_cpy (I 10) (I 4) 0 0 8)) 5) 0 0 8)) 6 (va_cpy ((m_row (m_row I 4 (va_cpy (I 10) (I 4) 0 0 8)) 5 (va_cpy ((m_row I 4 (va_cpy (I 10) (I 4) 0 0 8)) 11) ((m_row I 4 (va_cpy (I 10) (I 4) 0 0 8)) 5) 0 0 8)) 12) ((m_row (m_row I 4 (va_cpy (I 10) (I 4) 0 0 8)) 5 (va_cpy ((m_row I 4 (va_cpy (I 10) (I 4) 0 0 8)) 11) ((m_row I 4 (va_cpy (I 10) (I 4) 0 0 8)) 5) 0 0 8)) 6) 0 0 8)) 7) 0 0 6)) 8) 0 0 6)) 9 5)) 3 6 ((m_up (m_row (m_row (m_row (m_row (m_row I 4 (va_cpy (I 10) (I 4) 0 0 8)) 5 (va_cpy ((m_row I 4 (va_cpy (I 10) (I 4) 0 0 8)) 11) ((m_row I 4 (va_cpy (I 10) (I 4) 0 0 8)) 5) 0 0 8)) 6 (va_cpy ((m_row (m_row I 4 (va_cpy (I 10) (I 4) 0 0 8)) 5 (va_cpy ((m_row I 4 (va_cpy (I 10) (I 4) 0 0 8)) 11) ((m_row I 4 (va_cpy (I 10) (I 4) 0 0 8)) 5) 0 0 8)) 12) ((m_row (m_row I 4 (va_cpy (I 10) (I 4) 0 0 8)) 5 (va_cpy ((m_row I 4 (va_cpy (I 10) (I 4) 0 0 8)) 11) ((m_row I 4 (va_cpy (I 10) (I 4) 0 0 8)) 5) 0 0 8)) 6) 0 0 8)) 7 (va_cpy ((m_row (m_row (m_row I 4 (va_cpy (I 10) (I 4) 0 0 8)) 5 (va_cpy ((m_row I 4 (va_cpy (I 10) (I 4) 0 0 8)) 11) ((m_row I 4 (va_cpy (I 10) (I 4) 0 0 8)) 5) 0 0 8)) 6 (va_cpy ((m_row (m_row I 4 (va_cpy (I 10) (I 4) 0 0 8)) 5 (va_cpy ((m_row I 4 (va_cpy (I 10) (I 4) 0 0 8)) 11) ((m_row I 4 (va_cpy (I 10) (I 4) 0 0 8)) 5) 0 0 8)) 12) ((m_row (m_row I 4 (va_cpy (I 10) (I 4) 0 0 8)) 5 (va_cpy ((m_row I 4 (va_cpy (I 10) (I 4) 0 0 8)) 11) ((m_row I 4 (va_cpy (I 10) (I 4) 0 0 8)) 5) 0 0 8)) 6) 0 0 8)) 13) ((m_row (m_row (m_row I 4 (va_cpy (I 10) (I 4) 0 0 8)) 5 (va_cpy ((m_row I 4 (va_cpy (I 10) (I 4) 0 0 8)) 11) ((m_row I 4 (va_cpy (I 10) (I 4) 0 0 8)) 5) 0 0 8)) 6 (va_cpy ((m_row (m_row I 4 (va_cpy (I 10) (I 4) 0 0 8)) 5 (va_cpy ((m_row I 4 (va_cpy (I 10) (I 4) 0 0 8)) 11) ((m_row I 4 (va_cpy (I 10) (I 4) 0 0 8)) 5) 0 0 8)) 12) ((m_row (m_row I 4 (va_cpy (I 10) (I 4) 0 0 8)) 5 (va_cpy ((m_row I 4 (va_cpy (I 10) (I 4) 0 0 8)) 11) ((m_row I 4 (va_cpy (I 10) (I 4) 0 0 8)) 5) 0 0 8)) 6) 0 0 8)) 7) 0 0 6)) 8 (va_cpy ((m_row (m_row (m_row (m_row I 4 (va_cpy (I 10) (I 4) 0 0 8)) 5 (va_cpy ((m_row I 4 (va_cpy (I 10) (I 4) 0 0 8)) 11) ((m_row I 4 (va_cpy (I 10) (I 4) 0 0 8)) 5) 0 0 8)) 6 (va_cpy ((m_row (m_row I 4 (va_cpy (I 10) (I 4) 0 0 8)) 5 (va_cpy ((m_row I 4 (va_cpy (I 10) (I 4) 0 0 8)) 11) ((m_row I 4 (va_cpy (I 10) (I 4) 0 0 8)) 5) 0 0 8)) 12) ((m_row (m_row I 4 (va_cpy (I 10) (I 4) 0 0 8)) 5 (va_cpy ((m_row I 4 (va_cpy (I 10) (I 4) 0 0 8)) 11) ((m_row I 4 (va_cpy (I 10) (I 4) 0 0 8)) 5) 0 0 8)) 6) 0 0 8)) 7 (va_cpy ((m_row (m_row (m_row I 4 (va_cpy (I 10) (I 4) 0 0 8)) 5 (va_cpy ((m_row I 4 (va_cpy (I 10) (I 4) 0 0 8)) 11) ((m_row I 4 (va_cpy (I 10) (I 4) 0 0 8)) 5) 0 0 8)) 6 (va_cpy ((m_row (m_row I 4 (va_cpy (I 10) (I 4) 0 0 8)) 5 (va_cpy ((m_row I 4 (va_cpy (I 10) (I 4) 0 0 8)) 11) ((m_row I 4 (va_cpy (I 10) (I 4) 0 0 8)) 5) 0 0 8)) 12) ((m_row (m_row I 4 (va_cpy (I 10) (I 4) 0 0 8)) 5 (va_cpy ((m_row I 4 (va_cpy (I 10) (I 4) 0 0 8)) 11) ((m_row I 4 (va_cpy (I 10) (I 4) 0 0 8)) 5) 0 0 8)) 6) 0 0 8)) 13) ((m_row (m_row (m_row I 4 (va_cpy (I 10) (I 4) 0 0 8)) 5 (va_cpy ((m_row I 4 (va_cpy (I 10) (I 4) 0 0 8)) 11) ((m_row I 4 (va_cpy (I 10) (I 4) 0 0 8)) 5) 0 0 8)) 6 (va_cpy ((m_row (m_row I 4 (va_cpy (I 10) (I 4) 0 0 8)) 5 (va_cpy ((m_row I 4 (va_cpy (I 10) (I 4) 0 0 8)) 11) ((m_row I 4 (va_cpy (I 10) (I 4) 0 0 8)) 5) 0 0 8)) 12) ((m_row (m_row I 4 (va_cpy (I 10) (I 4) 0 0 8)) 5 (va_cpy ((m_row I 4 (va_cpy (I 10) (I 4) 0 0 8)) 11) ((m_row I 4 (va_cpy (I 10) (I 4) 0 0 8)) 5) 0 0 8)) 6) 0 0 8)) 7) 0 0 6)) 14) ((m_row (m_row (m_row (m_row I 4 (va_cpy (I 10) (I 4) 0 0 8)) 5 (va_cpy ((m_row I 4 (va_cpy (I 10) (I 4) 0 0 8)) 11) ((m_row I 4 (va_cpy (I 10) (I 4) 0 0 8)) 5) 0 0 8)) 6 (va_cpy ((m_row (m_row I 4 (va_cpy (I 10) (I 4) 0 0 8)) 5 (va_cpy ((m_row I 4 (va_cpy (I 10) (I 4) 0 0 8)) 11) ((m_row I 4 (va_cpy (I 10) (I 4) 0 0 8)) 5) 0 0 8)) 12) ((m_row (m_row I 4 (va_cpy (I 10) (I 4) 0 0 8)) 5 (va_cpy ((m_row I 4 (va_cpy (I 10) (I 4) 0 0 8)) 11) ((m_row I 4 (va_cpy (I 10) (I 4) 0 0 8)) 5) 0 0 8)) 6) 0 0 8)) 7 (va_cpy ((m_row (m_row (m_row I 4 (va_cpy (I 10) (I 4) 0 0 8)) 5 (va_cpy ((m_row I 4 (va_cpy (I 10) (I 4) 0 0 8)) 11) ((m_row I 4 (va_cpy (I 10) (I 4) 0 0 8)) 5) 0 0 8)) 6 (va_cpy ((m_row (m_row I 4 (va_cpy (I 10) (I 4) 0 0 8)) 5 (va_cpy ((m_row I 4 (va_cpy (I 10) (I 4) 0 0 8)) 11) ((m_row I 4 (va_cpy (I 10) (I 4) 0 0 8)) 5) 0 0 8)) 12) ((m_row (m_row I 4 (va_cpy (I 10) (I 4) 0 0 8)) 5 (va_cpy ((m_row I 4 (va_cpy (I 10) (I 4) 0 0 8)) 11) ((m_row I 4 (va_cpy (I 10) (I 4) 0 0 8)) 5) 0 0 8)) 6) 0 0 8)) 13) ((m_row (m_row (m_row I 4 (va_cpy (I 10) (I 4) 0 0 8)) 5 (va_cpy ((m_row I 4 (va_cpy (I 10) (I 4) 0 0 8)) 11) ((m_row I 4 (va_cpy (I 10) (I 4) 0 0 8)) 5) 0 0 8)) 6 (va_cpy ((m_row (m_row I 4 (va_cpy (I 10) (I 4) 0 0 8)) 5 (va_cpy ((m_row I 4 (va_cpy (I 10) (I 4) 0 0 8)) 11) ((m_row I 4 (va_cpy (I 10) (I 4) 0 0 8)) 5) 0 0 8)) 12) ((m_row (m_row I 4 (va_cpy (I 10) (I 4) 0 0 8)) 5 (va_cpy ((m_row I 4 (va_cpy (I 10) (I 4) 0 0 8)) 11) ((m_row I 4 (va_cpy (I 10) (I 4) 0 0 8)) 5) 0 0 8)) 6) 0 0 8)) 7) 0 0 6)) 8) 0 0 6)) 3 5 ((m_row (m_row (m_row (m_row (m_row I 4 (va_cpy (I 10) (I 4) 0 0 8)) 5 (va_cpy ((m_row I 4 (va_cpy (I 10) (I 4) 0 0 8)) 11) ((m_row I 4 (va_cpy (I 10) (I 4) 0 0 8)) 5) 0 0 8)) 6 (va_cpy ((m_row (m_row I 4 (va_cpy (I 10) (I 4) 0 0 8)) 5 (va_cpy ((m_row I 4 (va_cpy (I 10) (I 4) 0 0 8)) 11) ((m_row I 4 (va_cpy (I 10) (I 4) 0 0 8)) 5) 0 0 8)) 12) ((m_row (m_row I 4 (va_cpy (I 10) (I 4) 0 0 8)) 5 (va_cpy ((m_row I 4 (va_cpy (I 10) (I 4) 0 0 8)) 11) ((m_row I 4 (va_cpy (I 10) (I 4) 0 0 8)) 5) 0 0 8)) 6) 0 0 8)) 7 (va_cpy ((m_row (m_row (m_row I 4 (va_cpy (I 10) (I 4) 0 0 8)) 5 (va_cpy ((m_row I 4 (va_cpy (I 10) (I 4) 0 0 8)) 11) ((m_row I 4 (va_cpy (I 10) (I 4) 0 0 8)) 5) 0 0 8)) 6 (va_cpy ((m_row (m_row I 4 (va_cpy (I 10) (I 4) 0 0 8)) 5 (va_cpy ((m_row I 4 (va_cpy (I 10) (I 4) 0 0 8)) 11) ((m_row I 4 (va_cpy (I 10) (I 4) 0 0 8)) 5) 0 0 8)) 12) ((m_row (m_row I 4 (va_cpy (I 10) (I 4) 0 0 8)) 5 (va_cpy ((m_row I 4 (va_cpy (I 10) (I 4) 0 0 8)) 11) ((m_row I 4 (va_cpy (I 10) (I 4) 0 0 8)) 5) 0 0 8)) 6) 0 0 8)) 13) ((m_row (m_row (m_row I 4 (va_cpy (I 10) (I 4) 0 0 8)) 5 (va_cpy ((m_row I 4 (va_cpy (I 10) (I 4) 0 0 8)) 11) ((m_row I 4 (va_cpy (I 10) (I 4) 0 0 8)) 5) 0 0 8)) 6 (va_cpy ((m_row (m_row I 4 (va_cpy (I 10) (I 4) 0 0 8)) 5 (va_cpy ((m_row I 4 (va_cpy (I 10) (I 4) 0 0 8)) 11) ((m_row I 4 (va_cpy (I 10) (I 4) 0 0 8)) 5) 0 0 8)) 12) ((m_row (m_row I 4 (va_cpy (I 10) (I 4) 0 0 8)) 5 (va_cpy ((m_row I 4 (va_cpy (I 10) (I 4) 0 0 8)) 11) ((m_row I 4 (va_cpy (I 10) (I 4) 0 0 8)) 5) 0 0 8)) 6) 0 0 8)) 7) 0 0 6)) 8 (va_cpy ((m_row (m_row (m_row (m_row I 4 (va_cpy (I 10) (I 4) 0 0 8)) 5 (va_cpy ((m_row I 4 (va_cpy (I 10) (I 4) 0 0 8)) 11) ((m_row I 4 (va_cpy (I 10) (I 4) 0 0 8)) 5) 0 0 8)) 6 (va_cpy ((m_row (m_row I 4 (va_cpy (I 10) (I 4) 0 0 8)) 5 (va_cpy ((m_row I 4 (va_cpy (I 10) (I 4) 0 0 8)) 11) ((m_row I 4 (va_cpy (I 10) (I 4) 0 0 8)) 5) 0 0 8)) 12) ((m_row (m_row I 4 (va_cpy (I 10) (I 4) 0 0 8)) 5 (va_cpy ((m_row I 4 (va_cpy (I 10) (I 4) 0 0 8)) 11) ((m_row I 4 (va_cpy (I 10) (I 4) 0 0 8)) 5) 0 0 8)) 6) 0 0 8)) 7 (va_cpy ((m_row (m_row (m_row I 4 (va_cpy (I 10) (I 4) 0 0 8)) 5 (va_cpy ((m_row I 4 (va_cpy (I 10) (I 4) 0 0 8)) 11) ((m_row I 4 (va_cpy (I 10) (I 4) 0 0 8)) 5) 0 0 8)) 6 (va_cpy ((m_row (m_row I 4 (va_cpy (I 10) (I 4) 0 0 8)) 5 (va_cpy ((m_row I 4 (va_cpy (I 10) (I 4) 0 0 8)) 11) ((m_row I 4 (va_cpy (I 10) (I 4) 0 0 8)) 5) 0 0 8)) 12) ((m_row (m_row I 4 (va_cpy (I 10) (I 4) 0 0 8)) 5 (va_cpy ((m_row I 4 (va_cpy (I 10) (I 4) 0 0 8)) 11) ((m_row I 4 (va_cpy (I 10) (I 4) 0 0 8)) 5) 0 0 8)) 6) 0 0 8)) 13) ((m_row (m_row (m_row I 4 (va_cpy (I 10) (I 4) 0 0 8)) 5 (va_cpy ((m_row I 4 (va_cpy (I 10) (I 4) 0 0 8)) 11) ((m_row I 4 (va_cpy (I 10) (I 4) 0 0 8)) 5) 0 0 8)) 6 (va_cpy ((m_row (m_row I 4 (va_cpy (I 10) (I 4) 0 0 8)) 5 (va_cpy ((m_row I 4 (va_cpy (I 10) (I 4) 0 0 8)) 11) ((m_row I 4 (va_cpy (I 10) (I 4) 0 0 8)) 5) 0 0 8)) 12) ((m_row (m_row I 4 (va_cpy (I 10) (I 4) 0 0 8)) 5 (va_cpy ((m_row I 4 (va_cpy (I 10) (I 4) 0 0 8)) 11) ((m_row I 4 (va_cpy (I 10) (I 4) 0 0 8)) 5) 0 0 8)) 6) 0 0 8)) 7) 0 0 6)) 14) ((m_row (m_row (m_row (m_row I 4 (va_cpy (I 10) (I 4) 0 0 8)) 5 (va_cpy ((m_row I 4 (va_cpy (I 10) (I 4) 0 0 8)) 11) ((m_row I 4 (va_cpy (I 10) (I 4) 0 0 8)) 5) 0 0 8)) 6 (va_cpy ((m_row (m_row I 4 (va_cpy (I 10) (I 4) 0 0 8)) 5 (va_cpy ((m_row I 4 (va_cpy (I 10) (I 4) 0 0 8)) 11) ((m_row I 4 (va_cpy (I 10) (I 4) 0 0 8)) 5) 0 0 8)) 12) ((m_row (m_row I 4 (va_cpy (I 10) (I 4) 0 0 8)) 5 (va_cpy ((m_row I 4 (va_cpy (I 10) (I 4) 0 0 8)) 11) ((m_row I 4 (va_cpy (I 10) (I 4) 0 0 8)) 5) 0 0 8)) 6) 0 0 8)) 7 (va_cpy ((m_row (m_row (m_row I 4 (va_cpy (I 10) (I 4) 0 0 8)) 5 (va_cpy ((m_row I 4 (va_cpy (I 10) (I 4) 0 0 8)) 11) ((m_row I 4 (va_cpy (I 10) (I 4) 0 0 8)) 5) 0 0 8)) 6 (va_cpy ((m_row (m_row I 4 (va_cpy (I 10) (I 4) 0 0 8)) 5 (va_cpy ((m_row I 4 (va_cpy (I 10) (I 4) 0 0 8)) 11) ((m_row I 4 (va_cpy (I 10) (I 4) 0 0 8)) 5) 0 0 8)) 12) ((m_row (m_row I 4 (va_cpy (I 10) (I 4) 0 0 8)) 5 (va_cpy ((m_row I 4 (va_cpy (I 10) (I 4) 0 0 8)) 11) ((m_row I 4 (va_cpy (I 10) (I 4) 0 0 8)) 5) 0 0 8)) 6) 0 0 8)) 13) ((m_row (m_row (m_row I 4 (va_cpy (I 10) (I 4) 0 0 8)) 5 (va_cpy ((m_row I 4 (va_cpy (I 10) (I 4) 0 0 8)) 11) ((m_row I 4 (va_cpy (I 10) (I 4) 0 0 8)) 5) 0 0 8)) 6 (va_cpy ((m_row (m_row I 4 (va_cpy (I 10) (I 4) 0 0 8)) 5 (va_cpy ((m_row I 4 (va_cpy (I 10) (I 4) 0 0 8)) 11) ((m_row I 4 (va_cpy (I 10) (I 4) 0 0 8)) 5) 0 0 8)) 12) ((m_row (m_row I 4 (va_cpy (I 10) (I 4) 0 0 8)) 5 (va_cpy ((m_row I 4 (va_cpy (I 10) (I 4) 0 0 8)) 11) ((m_row I 4 (va_cpy (I 10) (I 4) 0 0 8)) 5) 0 0 8)) 6) 0 0 8)) 7) 0 0 6)) 8) 0 0 6)) 9 5)) 9 6)) 3 7 ((m_up (m_up (m_row (m_row (m_row (m_row (m_row I 4 (va_cpy (I 10) (I 4) 0 0 8)) 5 (va_cpy ((m_row I 4 (va_cpy (I 10) (I 4) 0 0 8)) 11) ((m_row I 4 (va_cpy (I 10) (I 4) 0 0 8)) 5) 0 0 8)) 6 (va_cpy ((m_row (m_row I 4 (va_cpy (I 10) (I 4) 0 0 8)) 5 (va_cpy ((m_row I 4 (va_cpy (I 10) (I 4) 0 0 8)) 11) ((m_row I 4 (va_cpy (I 10) (I 4) 0 0 8)) 5) 0 0 8)) 12) ((m_row (m_row I 4 (va_cpy (I 10) (I 4) 0 0 8)) 5 (va_cpy ((m_row I 4 (va_cpy (I 10) (I 4) 0 0 8)) 11) ((m_row I 4 (va_cpy (I 10) (I 4) 0 0 8)) 5) 0 0 8)) 6) 0 0 8)) 7 (va_cpy ((m_row (m_row (m_row I 4 (va_cpy (I 10) (I 4) 0 0 8)) 5 (va_cpy ((m_row I 4 (va_cpy (I 10) (I 4) 0 0 8)) 11) ((m_row I 4 (va_cpy (I 10) (I 4) 0 0 8)) 5) 0 0 8)) 6 (va_cpy ((m_row (m_row I 4 (va_cpy (I 10) (I 4) 0 0 8)) 5 (va_cpy ((m_row I 4 (va_cpy (I 10) (I 4) 0 0 8)) 11) ((m_row I 4 (va_cpy (I 10) (I 4) 0 0 8)) 5) 0 0 8)) 12) ((m_row (m_row I 4 (va_cpy (I 10) (I 4) 0 0 8)) 5 (va_cpy ((m_row I 4 (va_cpy (I 10) (I 4) 0 0 8)) 11) ((m_row I 4 (va_cpy (I 10) (I 4) 0 0 8)) 5) 0 0 8)) 6) 0 0 8)) 13) ((m_row (m_row (m_row I 4 (va_cpy (I 10) (I 4) 0 0 8)) 5 (va_cpy ((m_row I 4 (va_cpy (I 10) (I 4) 0 0 8)) 11) ((m_row I 4 (va_cpy (I 10) (I 4) 0 0 8)) 5) 0 0 8)) 6 (va_cpy ((m_row (m_row I 4 (va_cpy (I 10) (I 4) 0 0 8)) 5 (va_cpy ((m_row I 4 (va_cpy (I 10) (I 4) 0 0 8)) 11) ((m_row I 4 (va_cpy (I 10) (I 4) 0 0 8)) 5) 0 0 8)) 12) ((m_row (m_row I 4 (va_cpy (I 10) (I 4) 0 0 8)) 5 (va_cpy ((m_row I 4 (va_cpy (I 10) (I 4) 0 0 8)) 11) ((m_row I 4 (va_cpy (I 10) (I 4) 0 0 8)) 5) 0 0 8)) 6) 0 0 8)) 7) 0 0 6)) 8 (va_cpy ((m_row (m_row (m_row (m_row I 4 (va_cpy (I 10) (I 4) 0 0 8)) 5 (va_cpy ((m_row I 4 (va_cpy (I 10) (I 4) 0 0 8)) 11) ((m_row I 4 (va_cpy (I 10) (I 4) 0 0 8)) 5) 0 0 8)) 6 (va_cpy ((m_row (m_row I 4 (va_cpy (I 10) (I 4) 0 0 8)) 5 (va_cpy ((m_row I 4 (va_cpy (I 10) (I 4) 0 0 8)) 11) ((m_row I 4 (va_cpy (I 10) (I 4) 0 0 8)) 5) 0 0 8)) 12) ((m_row (m_row I 4 (va_cpy (I 10) (I 4) 0 0 8)) 5 (va_cpy ((m_row I 4 (va_cpy (I 10) (I 4) 0 0 8)) 11) ((m_row I 4 (va_cpy (I 10) (I 4) 0 0 8)) 5) 0 0 8)) 6) 0 0 8)) 7 (va_cpy ((m_row (m_row (m_row I 4 (va_cpy (I 10) (I 4) 0 0 8)) 5 (va_cpy ((m_row I 4 (va_cpy (I 10) (I 4) 0 0 8)) 11) ((m_row I 4 (va_cpy (I 10) (I 4) 0 0 8)) 5) 0 0 8)) 6 (va_cpy ((m_row (m_row I 4 (va_cpy (I 10) (I 4) 0 0 8)) 5 (va_cpy ((m_row I 4 (va_cpy (I 10) (I 4) 0 0 8)) 11) ((m_row I 4 (va_cpy (I 10) (I 4) 0 0 8)) 5) 0 0 8)) 12) ((m_row (m_row I 4 (va_cpy (I 10) (I 4) 0 0 8)) 5 (va_cpy ((m_row I 4 (va_cpy (I 10) (I 4) 0 0 8)) 11) ((m_row I 4 (va_cpy (I 10) (I 4) 0 0 8)) 5) 0 0 8)) 6) 0 0 8)) 13) ((m_row (m_row (m_row I 4 (va_cpy (I 10) (I 4) 0 0 8)) 5 (va_cpy ((m_row I 4 (va_cpy (I 10) (I 4) 0 0 8)) 11) ((m_row I 4 (va_cpy (I 10) (I 4) 0 0 8)) 5) 0 0 8)) 6 (va_cpy ((m_row (m_row I 4 (va_cpy (I 10) (I 4) 0 0 8)) 5 (va_cpy ((m_row I 4 (va_cpy (I 10) (I 4) 0 0 8)) 11) ((m_row I 4 (va_cpy (I 10) (I 4) 0 0 8)) 5) 0 0 8)) 12) ((m_row (m_row I 4 (va_cpy (I 10) (I 4) 0 0 8)) 5 (va_cpy ((m_row I 4 (va_cpy (I 10) (I 4) 0 0 8)) 11) ((m_row I 4 (va_cpy (I 10) (I 4) 0 0 8)) 5) 0 0 8)) 6) 0 0 8)) 7) 0 0 6)) 14) ((m_row (m_row (m_row (m_row I 4 (va_cpy (I 10) (I 4) 0 0 8)) 5 (va_cpy ((m_row I 4 (va_cpy (I 10) (I 4) 0 0 8)) 11) ((m_row I 4 (va_cpy (I 10) (I 4) 0 0 8)) 5) 0 0 8)) 6 (va_cpy ((m_row (m_row I 4 (va_cpy (I 10) (I 4) 0 0 8)) 5 (va_cpy ((m_row I 4 (va_cpy (I 10) (I 4) 0 0 8)) 11) ((m_row I 4 (va_cpy (I 10) (I 4) 0 0 8)) 5) 0 0 8)) 12) ((m_row (m_row I 4 (va_cpy (I 10) (I 4) 0 0 8)) 5 (va_cpy ((m_row I 4 (va_cpy (I 10) (I 4) 0 0 8)) 11) ((m_row I 4 (va_cpy (I 10) (I 4) 0 0 8)) 5) 0 0 8)) 6) 0 0 8)) 7 (va_cpy ((m_row (m_row (m_row I 4 (va_cpy (I 10) (I 4) 0 0 8)) 5 (va_cpy ((m_row I 4 (va_cpy (I 10) (I 4) 0 0 8)) 11) ((m_row I 4 (va_cpy (I 10) (I 4) 0 0 8)) 5) 0 0 8)) 6 (va_cpy ((m_row (m_row I 4 (va_cpy (I 10) (I 4) 0 0 8)) 5 (va_cpy ((m_row I 4 (va_cpy (I 10) (I 4) 0 0 8)) 11) ((m_row I 4 (va_cpy (I 10) (I 4) 0 0 8)) 5) 0 0 8)) 12) ((m_row (m_row I 4 (va_cpy (I 10) (I 4) 0 0 8)) 5 (va_cpy ((m_row I 4 (va_cpy (I 10) (I 4) 0 0 8)) 11) ((m_row I 4 (va_cpy (I 10) (I 4) 0 0 8)) 5) 0 0 8)) 6) 0 0 8)) 13) ((m_row (m_row (m_row I 4 (va_cpy (I 10) (I 4) 0 0 8)) 5 (va_cpy ((m_row I 4 (va_cpy (I 10) (I 4) 0 0 8)) 11) ((m_row I 4 (va_cpy (I 10) (I 4) 0 0 8)) 5) 0 0 8)) 6 (va_cpy ((m_row (m_row I 4 (va_cpy (I 10) (I 4) 0 0 8)) 5 (va_cpy ((m_row I 4 (va_cpy (I 10) (I 4) 0 0 8)) 11) ((m_row I 4 (va_cpy (I 10) (I 4) 0 0 8)) 5) 0 0 8)) 12) ((m_row (m_row I 4 (va_cpy (I 10) (I 4) 0 0 8)) 5 (va_cpy ((m_row I 4 (va_cpy (I 10) (I 4) 0 0 8)) 11) ((m_row I 4 (va_cpy (I 10) (I 4) 0 0 8)) 5) 0 0 8)) 6) 0 0 8)) 7) 0 0 6)) 8) 0 0 6)) 3 5 ((m_row (m_row (m_row (m_row (m_row I 4 (va_cpy (I 10) (I 4) 0 0 8)) 5 (va_cpy ((m_row I 4 (va_cpy (I 10) (I 4) 0 0 8)) 11) ((m_row I 4 (va_cpy (I 10) (I 4) 0 0 8)) 5) 0 0 8)) 6 (va_cpy ((m_row (m_row I 4 (va_cpy (I 10) (I 4) 0 0 8)) 5 (va_cpy ((m_row I 4 (va_cpy (I 10) (I 4) 0 0 8)) 11) ((m_row I 4 (va_cpy (I 10) (I 4) 0 0 8)) 5) 0 0 8)) 12) ((m_row (m_row I 4 (va_cpy (I 10) (I 4) 0 0 8)) 5 (va_cpy ((m_row I 4 (va_cpy (I 10) (I 4) 0 0 8)) 11) ((m_row I 4 (va_cpy (I 10) (I 4) 0 0 8)) 5) 0 0 8)) 6) 0 0 8)) 7 (va_cpy ((m_row (m_row (m_row I 4 (va_cpy (I 10) (I 4) 0 0 8)) 5 (va_cpy ((m_row I 4 (va_cpy (I 10) (I 4) 0 0 8)) 11) ((m_row I 4 (va_cpy (I 10) (I 4) 0 0 8)) 5) 0 0 8)) 6 (va_cpy ((m_row (m_row I 4 (va_cpy (I 10) (I 4) 0 0 8)) 5 (va_cpy ((m_row I 4 (va_cpy (I 10) (I 4) 0 0 8)) 11) ((m_row I 4 (va_cpy (I 10) (I 4) 0 0 8)) 5) 0 0 8)) 12) ((m_row (m_row I 4 (va_cpy (I 10) (I 4) 0 0 8)) 5 (va_cpy ((m_row I 4 (va_cpy (I 10) (I 4) 0 0 8)) 11) ((m_row I 4 (va_cpy (I 10) (I 4) 0 0 8)) 5) 0 0 8)) 6) 0 0 8)) 13) ((m_row (m_row (m_row I 4 (va_cpy (I 10) (I 4) 0 0 8)) 5 (va_cpy ((m_row I 4 (va_cpy (I 10) (I 4) 0 0 8)) 11) ((m_row I 4 (va_cpy (I 10) (I 4) 0 0 8)) 5) 0 0 8)) 6 (va_cpy ((m_row (m_row I 4 (va_cpy (I 10) (I 4) 0 0 8)) 5 (va_cpy ((m_row I 4 (va_cpy (I 10) (I 4) 0 0 8)) 11) ((m_row I 4 (va_cpy (I 10) (I 4) 0 0 8)) 5) 0 0 8)) 12) ((m_row (m_row I 4 (va_cpy (I 10) (I 4) 0 0 8)) 5 (va_cpy ((m_row I 4 (va_cpy (I 10) (I 4) 0 0 8)) 11) ((m_row I 4 (va_cpy (I 10) (I 4) 0 0 8)) 5) 0 0 8)) 6) 0 0 8)) 7) 0 0 6)) 8 (va_cpy ((m_row (m_row (m_row (m_row I 4 (va_cpy (I 10) (I 4) 0 0 8)) 5 (va_cpy ((m_row I 4 (va_cpy (I 10) (I 4) 0 0 8)) 11) ((m_row I 4 (va_cpy (I 10) (I 4) 0 0 8)) 5) 0 0 8)) 6 (va_cpy ((m_row (m_row I 4 (va_cpy (I 10) (I 4) 0 0 8)) 5 (va_cpy ((m_row I 4 (va_cpy (I 10) (I 4) 0 0 8)) 11) ((m_row I 4 (va_cpy (I 10) (I 4) 0 0 8)) 5) 0 0 8)) 12) ((m_row (m_row I 4 (va_cpy (I 10) (I 4) 0 0 8)) 5 (va_cpy ((m_row I 4 (va_cpy (I 10) (I 4) 0 0 8)) 11) ((m_row I 4 (va_cpy (I 10) (I 4) 0 0 8)) 5) 0 0 8)) 6) 0 0 8)) 7 (va_cpy ((m_row (m_row (m_row I 4 (va_cpy (I 10) (I 4) 0 0 8)) 5 (va_cpy ((m_row I 4 (va_cpy (I 10) (I 4) 0 0 8)) 11) ((m_row I 4 (va_cpy (I 10) (I 4) 0 0 8)) 5) 0 0 8)) 6 (va_cpy ((m_row (m_row I 4 (va_cpy (I 10) (I 4) 0 0 8)) 5 (va_cpy ((m_row I 4 (va_cpy (I 10) (I 4) 0 0 8)) 11) ((m_row I 4 (va_cpy (I 10) (I 4) 0 0 8)) 5) 0 0 8)) 12) ((m_row (m_row I 4 (va_cpy (I 10) (I 4) 0 0 8)) 5 (va_cpy ((m_row I 4 (va_cpy (I 10) (I 4) 0 0 8)) 11) ((m_row I 4 (va_cpy (I 10) (I 4) 0 0 8)) 5) 0 0 8)) 6) 0 0 8)) 13) ((m_row (m_row (m_row I 4 (va_cpy (I 10) (I 4) 0 0 8)) 5 (va_cpy ((m_row I 4 (va_cpy (I 10) (I 4) 0 0 8)) 11) ((m_row I 4 (va_cpy (I 10) (I 4) 0 0 8)) 5) 0 0 8)) 6 (va_cpy ((m_row (m_row I 4 (va_cpy (I 10) (I 4) 0 0 8)) 5 (va_cpy ((m_row I 4 (va_cpy (I 10) (I 4) 0 0 8)) 11) ((m_row I 4 (va_cpy (I 10) (I 4) 0 0 8)) 5) 0 0 8)) 12) ((m_row (m_row I 4 (va_cpy (I 10) (I 4) 0 0 8)) 5 (va_cpy ((m_row I 4 (va_cpy (I 10) (I 4) 0 0 8)) 11) ((m_row I 4 (va_cpy (I 10) (I 4) 0 0 8)) 5) 0 0 8)) 6) 0 0 8)) 7) 0 0 6)) 14) ((m_row (m_row (m_row (m_row I 4 (va_cpy (I 10) (I 4) 0 0 8)) 5 (va_cpy ((m_row I 4 (va_cpy (I 10) (I 4) 0 0 8)) 11) ((m_row I 4 (va_cpy (I 10) (I 4) 0 0 8)) 5) 0 0 8)) 6 (va_cpy ((m_row (m_row I 4 (va_cpy (I 10) (I 4) 0 0 8)) 5 (va_cpy ((m_row I 4 (va_cpy (I 10) (I 4) 0 0 8)) 11) ((m_row I 4 (va_cpy (I 10) (I 4) 0 0 8)) 5) 0 0 8)) 12) ((m_row (m_row I 4 (va_cpy (I 10) (I 4) 0 0 8)) 5 (va_cpy ((m_row I 4 (va_cpy (I 10) (I 4) 0 0 8)) 11) ((m_row I 4 (va_cpy (I 10) (I 4) 0 0 8)) 5) 0 0 8)) 6) 0 0 8)) 7 (va_cpy ((m_row (m_row (m_row I 4 (va_cpy (I 10) (I 4) 0 0 8)) 5 (va_cpy ((m_row I 4 (va_cpy (I 10) (I 4) 0 0 8)) 11) ((m_row I 4 (va_cpy (I 10) (I 4) 0 0 8)) 5) 0 0 8)) 6 (va_cpy ((m_row (m_row I 4 (va_cpy (I 10) (I 4) 0 0 8)) 5 (va_cpy ((m_row I 4 (va_cpy (I 10) (I 4) 0 0 8)) 11) ((m_row I 4 (va_cpy (I 10) (I 4) 0 0 8)) 5) 0 0 8)) 12) ((m_row (m_row I 4 (va_cpy (I 10) (I 4) 0 0 8)) 5 (va_cpy ((m_row I 4 (va_cpy (I 10) (I 4) 0 0 8)) 11) ((m_row I 4 (va_cpy (I 10) (I 4) 0 0 8)) 5) 0 0 8)) 6) 0 0 8)) 13) ((m_row (m_row (m_row I 4 (va_cpy (I 10) (I 4) 0 0 8)) 5 (va_cpy ((m_row I 4 (va_cpy (I 10) (I 4) 0 0 8)) 11) ((m_row I 4 (va_cpy (I 10) (I 4) 0 0 8)) 5) 0 0 8)) 6 (va_cpy ((m_row (m_row I 4 (va_cpy (I 10) (I 4) 0 0 8)) 5 (va_cpy ((m_row I 4 (va_cpy (I 10) (I 4) 0 0 8)) 11) ((m_row I 4 (va_cpy (I 10) (I 4) 0 0 8)) 5) 0 0 8)) 12) ((m_row (m_row I 4 (va_cpy (I 10) (I 4) 0 0 8)) 5 (va_cpy ((m_row I 4 (va_cpy (I 10) (I 4) 0 0 8)) 11) ((m_row I 4 (va_cpy (I 10) (I 4) 0 0 8)) 5) 0 0 8)) 6) 0 0 8)) 7) 0 0 6)) 8) 0 0 6)) 9 5)) 3 6 ((m_up (m_row (m_row (m_row (m_row (m_row I 4 (va_cpy (I 10) (I 4) 0 0 8)) 5 (va_cpy ((m_row I 4 (va_cpy (I 10) (I 4) 0 0 8)) 11) ((m_row I 4 (va_cpy (I 10) (I 4) 0 0 8)) 5) 0 0 8)) 6 (va_cpy ((m_row (m_row I 4 (va_cpy (I 10) (I 4) 0 0 8)) 5 (va_cpy ((m_row I 4 (va_cpy (I 10) (I 4) 0 0 8)) 11) ((m_row I 4 (va_cpy (I 10) (I 4) 0 0 8)) 5) 0 0 8)) 12) ((m_row (m_row I 4 (va_cpy (I 10) (I 4) 0 0 8)) 5 (va_cpy ((m_row I 4 (va_cpy (I 10) (I 4) 0 0 8)) 11) ((m_row I 4 (va_cpy (I 10) (I 4) 0 0 8)) 5) 0 0 8)) 6) 0 0 8)) 7 (va_cpy ((m_row (m_row (m_row I 4 (va_cpy (I 10) (I 4) 0 0 8)) 5 (va_cpy ((m_row I 4 (va_cpy (I 10) (I 4) 0 0 8)) 11) ((m_row I 4 (va_cpy (I 10) (I 4) 0 0 8)) 5) 0 0 8)) 6 (va_cpy ((m_row (m_row I 4 (va_cpy (I 10) (I 4) 0 0 8)) 5 (va_cpy ((m_row I 4 (va_cpy (I 10) (I 4) 0 0 8)) 11) ((m_row I 4 (va_cpy (I 10) (I 4) 0 0 8)) 5) 0 0 8)) 12) ((m_row (m_row I 4 (va_cpy (I 10) (I 4) 0 0 8)) 5 (va_cpy ((m_row I 4 (va_cpy (I 10) (I 4) 0 0 8)) 11) ((m_row I 4 (va_cpy (I 10) (I 4) 0 0 8)) 5) 0 0 8)) 6) 0 0 8)) 13) ((m_row (m_row (m_row I 4 (va_cpy (I 10) (I 4) 0 0 8)) 5 (va_cpy ((m_row I 4 (va_cpy (I 10) (I 4) 0 0 8)) 11) ((m_row I 4 (va_cpy (I 10) (I 4) 0 0 8)) 5) 0 0 8)) 6 (va_cpy ((m_row (m_row I 4 (va_cpy (I 10) (I 4) 0 0 8)) 5 (va_cpy ((m_row I 4 (va_cpy (I 10) (I 4) 0 0 8)) 11) ((m_row I 4 (va_cpy (I 10) (I 4) 0 0 8)) 5) 0 0 8)) 12) ((m_row (m_row I 4 (va_cpy (I 10) (I 4) 0 0 8)) 5 (va_cpy ((m_row I 4 (va_cpy (I 10) (I 4) 0 0 8)) 11) ((m_row I 4 (va_cpy (I 10) (I 4) 0 0 8)) 5) 0 0 8)) 6) 0 0 8)) 7) 0 0 6)) 8 (va_cpy ((m_row (m_row (m_row (m_row I 4 (va_cpy (I 10) (I 4) 0 0 8)) 5 (va_cpy ((m_row I 4 (va_cpy (I 10) (I 4) 0 0 8)) 11) ((m_row I 4 (va_cpy (I 10) (I 4) 0 0 8)) 5) 0 0 8)) 6 (va_cpy ((m_row (m_row I 4 (va_cpy (I 10) (I 4) 0 0 8)) 5 (va_cpy ((m_row I 4 (va_cpy (I 10) (I 4) 0 0 8)) 11) ((m_row I 4 (va_cpy (I 10) (I 4) 0 0 8)) 5) 0 0 8)) 12) ((m_row (m_row I 4 (va_cpy (I 10) (I 4) 0 0 8)) 5 (va_cpy ((m_row I 4 (va_cpy (I 10) (I 4) 0 0 8)) 11) ((m_row I 4 (va_cpy (I 10) (I 4) 0 0 8)) 5) 0 0 8)) 6) 0 0 8)) 7 (va_cpy ((m_row (m_row (m_row I 4 (va_cpy (I 10) (I 4) 0 0 8)) 5 (va_cpy ((m_row I 4 (va_cpy (I 10) (I 4) 0 0 8)) 11) ((m_row I 4 (va_cpy (I 10) (I 4) 0 0 8)) 5) 0 0 8)) 6 (va_cpy ((m_row (m_row I 4 (va_cpy (I 10) (I 4) 0 0 8)) 5 (va_cpy ((m_row I 4 (va_cpy (I 10) (I 4) 0 0 8)) 11) ((m_row I 4 (va_cpy (I 10) (I 4) 0 0 8)) 5) 0 0 8)) 12) ((m_row (m_row I 4 (va_cpy (I 10) (I 4) 0 0 8)) 5 (va_cpy ((m_row I 4 (va_cpy (I 10) (I 4) 0 0 8)) 11) ((m_row I 4 (va_cpy (I 10) (I 4) 0 0 8)) 5) 0 0 8)) 6) 0 0 8)) 13) ((m_row (m_row (m_row I 4 (va_cpy (I 10) (I 4) 0 0 8)) 5 (va_cpy ((m_row I 4 (va_cpy (I 10) (I 4) 0 0 8)) 11) ((m_row I 4 (va_cpy (I 10) (I 4) 0 0 8)) 5) 0 0 8)) 6 (va_cpy ((m_row (m_row I 4 (va_cpy (I 10) (I 4) 0 0 8)) 5 (va_cpy ((m_row I 4 (va_cpy (I 10) (I 4) 0 0 8)) 11) ((m_row I 4 (va_cpy (I 10) (I 4) 0 0 8)) 5) 0 0 8)) 12) ((m_row (m_row I 4 (va_cpy (I 10) (I 4) 0 0 8)) 5 (va_cpy ((m_row I 4 (va_cpy (I 10) (I 4) 0 0 8)) 11) ((m_row I 4 (va_cpy (I 10) (I 4) 0 0 8)) 5) 0 0 8)) 6) 0 0 8)) 7) 0 0 6)) 14) ((m_row (m_row (m_row (m_row I 4 (va_cpy (I 10) (I 4) 0 0 8)) 5 (va_cpy ((m_row I 4 (va_cpy (I 10) (I 4) 0 0 8)) 11) ((m_row I 4 (va_cpy (I 10) (I 4) 0 0 8)) 5) 0 0 8)) 6 (va_cpy ((m_row (m_row I 4 (va_cpy (I 10) (I 4) 0 0 8)) 5 (va_cpy ((m_row I 4 (va_cpy (I 10) (I 4) 0 0 8)) 11) ((m_row I 4 (va_cpy (I 10) (I 4) 0 0 8)) 5) 0 0 8)) 12) ((m_row (m_row I 4 (va_cpy (I 10) (I 4) 0 0 8)) 5 (va_cpy ((m_row I 4 (va_cpy (I 10) (I 4) 0 0 8)) 11) ((m_row I 4 (va_cpy (I 10) (I 4) 0 0 8)) 5) 0 0 8)) 6) 0 0 8)) 7 (va_cpy ((m_row (m_row (m_row I 4 (va_cpy (I 10) (I 4) 0 0 8)) 5 (va_cpy ((m_row I 4 (va_cpy (I 10) (I 4) 0 0 8)) 11) ((m_row I 4 (va_cpy (I 10) (I 4) 0 0 8)) 5) 0 0 8)) 6 (va_cpy ((m_row (m_row I 4 (va_cpy (I 10) (I 4) 0 0 8)) 5 (va_cpy ((m_row I 4 (va_cpy (I 10) (I 4) 0 0 8)) 11) ((m_row I 4 (va_cpy (I 10) (I 4) 0 0 8)) 5) 0 0 8)) 12) ((m_row (m_row I 4 (va_cpy (I 10) (I 4) 0 0 8)) 5 (va_cpy ((m_row I 4 (va_cpy (I 10) (I 4) 0 0 8)) 11) ((m_row I 4 (va_cpy (I 10) (I 4) 0 0 8)) 5) 0 0 8)) 6) 0 0 8)) 13) ((m_row (m_row (m_row I 4 (va_cpy (I 10) (I 4) 0 0 8)) 5 (va_cpy ((m_row I 4 (va_cpy (I 10) (I 4) 0 0 8)) 11) ((m_row I 4 (va_cpy (I 10) (I 4) 0 0 8)) 5) 0 0 8)) 6 (va_cpy ((m_row (m_row I 4 (va_cpy (I 10) (I 4) 0 0 8)) 5 (va_cpy ((m_row I 4 (va_cpy (I 10) (I 4) 0 0 8)) 11) ((m_row I 4 (va_cpy (I 10) (I 4) 0 0 8)) 5) 0 0 8)) 12) ((m_row (m_row I 4 (va_cpy (I 10) (I 4) 0 0 8)) 5 (va_cpy ((m_row I 4 (va_cpy (I 10) (I 4) 0 0 8)) 11) ((m_row I 4 (va_cpy (I 10) (I 4) 0 0 8)) 5) 0 0 8)) 6) 0 0 8)) 7) 0 0 6)) 8) 0 0 6)) 3 5 ((m_row (m_row (m_row (m_row (m_row I 4 (va_cpy (I 10) (I 4) 0 0 8)) 5 (va_cpy ((m_row I 4 (va_cpy (I 10) (I 4) 0 0 8)) 11) ((m_row I 4 (va_cpy (I 10) (I 4) 0 0 8)) 5) 0 0 8)) 6 (va_cpy ((m_row (m_row I 4 (va_cpy (I 10) (I 4) 0 0 8)) 5 (va_cpy ((m_row I 4 (va_cpy (I 10) (I 4) 0 0 8)) 11) ((m_row I 4 (va_cpy (I 10) (I 4) 0 0 8)) 5) 0 0 8)) 12) ((m_row (m_row I 4 (va_cpy (I 10) (I 4) 0 0 8)) 5 (va_cpy ((m_row I 4 (va_cpy (I 10) (I 4) 0 0 8)) 11) ((m_row I 4 (va_cpy (I 10) (I 4) 0 0 8)) 5) 0 0 8)) 6) 0 0 8)) 7 (va_cpy ((m_row (m_row (m_row I 4 (va_cpy (I 10) (I 4) 0 0 8)) 5 (va_cpy ((m_row I 4 (va_cpy (I 10) (I 4) 0 0 8)) 11) ((m_row I 4 (va_cpy (I 10) (I 4) 0 0 8)) 5) 0 0 8)) 6 (va_cpy ((m_row (m_row I 4 (va_cpy (I 10) (I 4) 0 0 8)) 5 (va_cpy ((m_row I 4 (va_cpy (I 10) (I 4) 0 0 8)) 11) ((m_row I 4 (va_cpy (I 10) (I 4) 0 0 8)) 5) 0 0 8)) 12) ((m_row (m_row I 4 (va_cpy (I 10) (I 4) 0 0 8)) 5 (va_cpy ((m_row I 4 (va_cpy (I 10) (I 4) 0 0 8)) 11) ((m_row I 4 (va_cpy (I 10) (I 4) 0 0 8)) 5) 0 0 8)) 6) 0 0 8)) 13) ((m_row (m_row (m_row I 4 (va_cpy (I 10) (I 4) 0 0 8)) 5 (va_cpy ((m_row I 4 (va_cpy (I 10) (I 4) 0 0 8)) 11) ((m_row I 4 (va_cpy (I 10) (I 4) 0 0 8)) 5) 0 0 8)) 6 (va_cpy ((m_row (m_row I 4 (va_cpy (I 10) (I 4) 0 0 8)) 5 (va_cpy ((m_row I 4 (va_cpy (I 10) (I 4) 0 0 8)) 11) ((m_row I 4 (va_cpy (I 10) (I 4) 0 0 8)) 5) 0 0 8)) 12) ((m_row (m_row I 4 (va_cpy (I 10) (I 4) 0 0 8)) 5 (va_cpy ((m_row I 4 (va_cpy (I 10) (I 4) 0 0 8)) 11) ((m_row I 4 (va_cpy (I 10) (I 4) 0 0 8)) 5) 0 0 8)) 6) 0 0 8)) 7) 0 0 6)) 8 (va_cpy ((m_row (m_row (m_row (m_row I 4 (va_cpy (I 10) (I 4) 0 0 8)) 5 (va_cpy ((m_row I 4 (va_cpy (I 10) (I 4) 0 0 8)) 11) ((m_row I 4 (va_cpy (I 10) (I 4) 0 0 8)) 5) 0 0 8)) 6 (va_cpy ((m_row (m_row I 4 (va_cpy (I 10) (I 4) 0 0 8)) 5 (va_cpy ((m_row I 4 (va_cpy (I 10) (I 4) 0 0 8)) 11) ((m_row I 4 (va_cpy (I 10) (I 4) 0 0 8)) 5) 0 0 8)) 12) ((m_row (m_row I 4 (va_cpy (I 10) (I 4) 0 0 8)) 5 (va_cpy ((m_row I 4 (va_cpy (I 10) (I 4) 0 0 8)) 11) ((m_row I 4 (va_cpy (I 10) (I 4) 0 0 8)) 5) 0 0 8)) 6) 0 0 8)) 7 (va_cpy ((m_row (m_row (m_row I 4 (va_cpy (I 10) (I 4) 0 0 8)) 5 (va_cpy ((m_row I 4 (va_cpy (I 10) (I 4) 0 0 8)) 11) ((m_row I 4 (va_cpy (I 10) (I 4) 0 0 8)) 5) 0 0 8)) 6 (va_cpy ((m_row (m_row I 4 (va_cpy (I 10) (I 4) 0 0 8)) 5 (va_cpy ((m_row I 4 (va_cpy (I 10) (I 4) 0 0 8)) 11) ((m_row I 4 (va_cpy (I 10) (I 4) 0 0 8)) 5) 0 0 8)) 12) ((m_row (m_row I 4 (va_cpy (I 10) (I 4) 0 0 8)) 5 (va_cpy ((m_row I 4 (va_cpy (I 10) (I 4) 0 0 8)) 11) ((m_row I 4 (va_cpy (I 10) (I 4) 0 0 8)) 5) 0 0 8)) 6) 0 0 8)) 13) ((m_row (m_row (m_row I 4 (va_cpy (I 10) (I 4) 0 0 8)) 5 (va_cpy ((m_row I 4 (va_cpy (I 10) (I 4) 0 0 8)) 11) ((m_row I 4 (va_cpy (I 10) (I 4) 0 0 8)) 5) 0 0 8)) 6 (va_cpy ((m_row (m_row I 4 (va_cpy (I 10) (I 4) 0 0 8)) 5 (va_cpy ((m_row I 4 (va_cpy (I 10) (I 4) 0 0 8)) 11) ((m_row I 4 (va_cpy (I 10) (I 4) 0 0 8)) 5) 0 0 8)) 12) ((m_row (m_row I 4 (va_cpy (I 10) (I 4) 0 0 8)) 5 (va_cpy ((m_row I 4 (va_cpy (I 10) (I 4) 0 0 8)) 11) ((m_row I 4 (va_cpy (I 10) (I 4) 0 0 8)) 5) 0 0 8)) 6) 0 0 8)) 7) 0 0 6)) 14) ((m_row (m_row (m_row (m_row I 4 (va_cpy (I 10) (I 4) 0 0 8)) 5 (va_cpy ((m_row I 4 (va_cpy (I 10) (I 4) 0 0 8)) 11) ((m_row I 4 (va_cpy (I 10) (I 4) 0 0 8)) 5) 0 0 8)) 6 (va_cpy ((m_row (m_row I 4 (va_cpy (I 10) (I 4) 0 0 8)) 5 (va_cpy ((m_row I 4 (va_cpy (I 10) (I 4) 0 0 8)) 11) ((m_row I 4 (va_cpy (I 10) (I 4) 0 0 8)) 5) 0 0 8)) 12) ((m_row (m_row I 4 (va_cpy (I 10) (I 4) 0 0 8)) 5 (va_cpy ((m_row I 4 (va_cpy (I 10) (I 4) 0 0 8)) 11) ((m_row I 4 (va_cpy (I 10) (I 4) 0 0 8)) 5) 0 0 8)) 6) 0 0 8)) 7 (va_cpy ((m_row (m_row (m_row I 4 (va_cpy (I 10) (I 4) 0 0 8)) 5 (va_cpy ((m_row I 4 (va_cpy (I 10) (I 4) 0 0 8)) 11) ((m_row I 4 (va_cpy (I 10) (I 4) 0 0 8)) 5) 0 0 8)) 6 (va_cpy ((m_row (m_row I 4 (va_cpy (I 10) (I 4) 0 0 8)) 5 (va_cpy ((m_row I 4 (va_cpy (I 10) (I 4) 0 0 8)) 11) ((m_row I 4 (va_cpy (I 10) (I 4) 0 0 8)) 5) 0 0 8)) 12) ((m_row (m_row I 4 (va_cpy (I 10) (I 4) 0 0 8)) 5 (va_cpy ((m_row I 4 (va_cpy (I 10) (I 4) 0 0 8)) 11) ((m_row I 4 (va_cpy (I 10) (I 4) 0 0 8)) 5) 0 0 8)) 6) 0 0 8)) 13) ((m_row (m_row (m_row I 4 (va_cpy (I 10) (I 4) 0 0 8)) 5 (va_cpy ((m_row I 4 (va_cpy (I 10) (I 4) 0 0 8)) 11) ((m_row I 4 (va_cpy (I 10) (I 4) 0 0 8)) 5) 0 0 8)) 6 (va_cpy ((m_row (m_row I 4 (va_cpy (I 10) (I 4) 0 0 8)) 5 (va_cpy ((m_row I 4 (va_cpy (I 10) (I 4) 0 0 8)) 11) ((m_row I 4 (va_cpy (I 10) (I 4) 0 0 8)) 5) 0 0 8)) 12) ((m_row (m_row I 4 (va_cpy (I 10) (I 4) 0 0 8)) 5 (va_cpy ((m_row I 4 (va_cpy (I 10) (I 4) 0 0 8)) 11) ((m_row I 4 (va_cpy (I 10) (I 4) 0 0 8)) 5) 0 0 8)) 6) 0 0 8)) 7) 0 0 6)) 8) 0 0 6)) 9 5)) 9 6)) 9 7)) (T1 := T) rfl ?_
  exact ev_ret rfl rfl hq
/-- FeltHarness$House.foesOf(I)I -/
def t_House_foesOf_3_10 (E : MEnv) (I : II) (T : TT) (Q : QQ) (y0 : Int32) : Prop := Q (.inl (some (.int y0))) I T
theorem s_House_foesOf_3_10 {E : MEnv} {I : II} {T : TT} {Q : QQ} {y0 : Int32} (hq : t_House_foesOf_3_10 E I T Q y0) : ev E 111 10 [none, none] [(.int y0)] I T Q := by
  unfold t_House_foesOf_3_10 at hq
  exact ev_ret rfl rfl hq
def t_House_foesOf_3_0 (E : MEnv) (I : II) (T : TT) (Q : QQ) (x1 : Int32) : Prop := ev E 107 0 [some (.ref 3), some (.int x1)] [] I T (KI (fun v1 I1 T1 => (v1 = 0 → (t_House_foesOf_3_10 E I1 T1 Q 0)) ∧ (¬ (v1 = 0) → ((¬ x1 < 0 ∧ x1.toNatClampNeg < 8) ∧ (t_House_foesOf_3_10 E I1 T1 Q (I1 6 x1.toNatClampNeg))))) (fun x I1 T1 => Q (.inr x) I1 T1))
theorem s_House_foesOf_3_0 {E : MEnv} {I : II} {T : TT} {Q : QQ} {x1 : Int32} (hq : t_House_foesOf_3_0 E I T Q x1) : ev E 111 0 [some (.ref 3), some (.int x1)] [] I T Q := by
  unfold t_House_foesOf_3_0 at hq
  refine ev_seq 2 (ip' := 2) (loc' := [some (.ref 3), some (.int x1)]) (st' := [(.int x1), (.ref 3)]) (I1 := I) (T1 := T) rfl ?_
  refine ev_callI rfl rfl rfl (fun v1 I1 T1 hq => ?_) (fun x I1 T1 hq => ?_) hq
  · refine ev_br (p := v1 = 0) (a := 9) (b := 4) (st' := []) inferInstance rfl rfl (fun hb => ?_) (fun hb => ?_)
    · have hq := hq.1 hb
      refine ev_seq 1 (ip' := 10) (loc' := [some (.ref 3), some (.int x1)]) (st' := [(.int 0)]) (I1 := I1) (T1 := T1) rfl ?_
      refine ev_fg [false, false] (loc' := [none, none]) rfl ?_
      exact s_House_foesOf_3_10 (T := T1) hq
    · have hq := hq.2 hb
      refine ev_seq 3 (ip' := 7) (loc' := [some (.ref 3), some (.int x1)]) (st' := [(.int x1), (.ref 6)]) (I1 := I1) (T1 := T1) rfl ?_
      obtain ⟨hg, hq⟩ := hq
      refine ev_iald rfl rfl hg ?_
      refine ev_seq 1 (ip' := 10) (loc' := [some (.ref 3), some (.int x1)]) (st' := [(.int (I1 6 x1.toNatClampNeg))]) (I1 := I1) (T1 := T1) rfl ?_
      refine ev_fg [false, false] (loc' := [none, none]) rfl ?_
      exact s_House_foesOf_3_10 (T := T1) hq
  · exact ⟨by decide, hq⟩
/-- FeltHarness$House.isFeeling(I)Z -/
def t_House_isFeeling_3_12 (E : MEnv) (I : II) (T : TT) (Q : QQ) (y0 : Int32) : Prop := (y0 = 0 ∨ y0 = 1) ∧ Q (.inl (some (.int y0))) I T
theorem s_House_isFeeling_3_12 {E : MEnv} {I : II} {T : TT} {Q : QQ} {y0 : Int32} (hq : t_House_isFeeling_3_12 E I T Q y0) : ev E 107 12 [none, none] [(.int y0)] I T Q := by
  unfold t_House_isFeeling_3_12 at hq
  exact ev_retb rfl rfl hq.1 hq.2
def t_House_isFeeling_3_11 (E : MEnv) (I : II) (T : TT) (Q : QQ) : Prop := t_House_isFeeling_3_12 E I T Q 0
theorem s_House_isFeeling_3_11 {E : MEnv} {I : II} {T : TT} {Q : QQ} (hq : t_House_isFeeling_3_11 E I T Q) : ev E 107 11 [none, none] [] I T Q := by
  unfold t_House_isFeeling_3_11 at hq
  refine ev_seq 1 (ip' := 12) (loc' := [none, none]) (st' := [(.int 0)]) (I1 := I) (T1 := T) rfl ?_
  exact s_House_isFeeling_3_12 (T := T) hq
def t_House_isFeeling_3_0 (E : MEnv) (I : II) (T : TT) (Q : QQ) (x1 : Int32) : Prop := (x1 < 0 → (t_House_isFeeling_3_11 E I T Q )) ∧ (¬ (x1 < 0) → (((I 3 5) ≤ x1 → (t_House_isFeeling_3_11 E I T Q )) ∧ (¬ ((I 3 5) ≤ x1) → ((8 ≤ x1 → (t_House_isFeeling_3_11 E I T Q )) ∧ (¬ (8 ≤ x1) → (t_House_isFeeling_3_12 E I T Q 1))))))
theorem s_House_isFeeling_3_0 {E : MEnv} {I : II} {T : TT} {Q : QQ} {x1 : Int32} (hq : t_House_isFeeling_3_0 E I T Q x1) : ev E 107 0 [some (.ref 3), some (.int x1)] [] I T Q := by
  unfold t_House_isFeeling_3_0 at hq
  refine ev_seq 1 (ip' := 1) (loc' := [some (.ref 3), some (.int x1)]) (st' := [(.int x1)]) (I1 := I) (T1 := T) rfl ?_
  refine ev_br (p := x1 < 0) (a := 11) (b := 2) (st' := []) inferInstance rfl rfl (fun hb => ?_) (fun hb => ?_)
  · have hq := hq.1 hb
    refine ev_fg [false, false] (loc' := [none, none]) rfl ?_
    exact s_House_isFeeling_3_11 (T := T) hq
  · have hq := hq.2 hb
    refine ev_seq 3 (ip' := 5) (loc' := [some (.ref 3), some (.int x1)]) (st' := [(.int (I 3 5)), (.int x1)]) (I1 := I) (T1 := T) rfl ?_
    refine ev_br (p := (I 3 5) ≤ x1) (a := 11) (b := 6) (st' := []) inferInstance rfl rfl (fun hb => ?_) (fun hb => ?_)
    · have hq := hq.1 hb
      refine ev_fg [false, false] (loc' := [none, none]) rfl ?_
      exact s_House_isFeeling_3_11 (T := T) hq
    · have hq := hq.2 hb
      refine ev_seq 2 (ip' := 8) (loc' := [some (.ref 3), some (.int x1)]) (st' := [(.int 8), (.int x1)]) (I1 := I) (T1 := T) rfl ?_
      refine ev_br (p := 8 ≤ x1) (a := 11) (b := 9) (st' := []) inferInstance rfl rfl (fun hb => ?_) (fun hb => ?_)
      · have hq := hq.1 hb
        refine ev_fg [false, false] (loc' := [none, none]) rfl ?_
        exact s_House_isFeeling_3_11 (T := T) hq
      · have hq := hq.2 hb
        refine ev_seq 2 (ip' := 12) (loc' := [some (.ref 3), some (.int x1)]) (st' := [(.int 1)]) (I1 := I) (T1 := T) rfl ?_
        refine ev_fg [false, false] (loc' := [none, none]) rfl ?_
        exact s_House_isFeeling_3_12 (T := T) hq
/-- FeltHarness$House.isStage(I)Z -/
def t_House_isStage_3_12 (E : MEnv) (I : II) (T : TT) (Q : QQ) (y0 : Int32) : Prop := (y0 = 0 ∨ y0 = 1) ∧ Q (.inl (some (.int y0))) I T
theorem s_House_isStage_3_12 {E : MEnv} {I : II} {T : TT} {Q : QQ} {y0 : Int32} (hq : t_House_isStage_3_12 E I T Q y0) : ev E 136 12 [none, none] [(.int y0)] I T Q := by
  unfold t_House_isStage_3_12 at hq
  exact ev_retb rfl rfl hq.1 hq.2
def t_House_isStage_3_11 (E : MEnv) (I : II) (T : TT) (Q : QQ) : Prop := t_House_isStage_3_12 E I T Q 0
theorem s_House_isStage_3_11 {E : MEnv} {I : II} {T : TT} {Q : QQ} (hq : t_House_isStage_3_11 E I T Q) : ev E 136 11 [none, none] [] I T Q := by
  unfold t_House_isStage_3_11 at hq
  refine ev_seq 1 (ip' := 12) (loc' := [none, none]) (st' := [(.int 0)]) (I1 := I) (T1 := T) rfl ?_
  exact s_House_isStage_3_12 (T := T) hq
def t_House_isStage_3_0 (E : MEnv) (I : II) (T : TT) (Q : QQ) (x1 : Int32) : Prop := (x1 < 0 → (t_House_isStage_3_11 E I T Q )) ∧ (¬ (x1 < 0) → (((I 3 6) ≤ x1 → (t_House_isStage_3_11 E I T Q )) ∧ (¬ ((I 3 6) ≤ x1) → ((6 ≤ x1 → (t_House_isStage_3_11 E I T Q )) ∧ (¬ (6 ≤ x1) → (t_House_isStage_3_12 E I T Q 1))))))
theorem s_House_isStage_3_0 {E : MEnv} {I : II} {T : TT} {Q : QQ} {x1 : Int32} (hq : t_House_isStage_3_0 E I T Q x1) : ev E 136 0 [some (.ref 3), some (.int x1)] [] I T Q := by
  unfold t_House_isStage_3_0 at hq
  refine ev_seq 1 (ip' := 1) (loc' := [some (.ref 3), some (.int x1)]) (st' := [(.int x1)]) (I1 := I) (T1 := T) rfl ?_
  refine ev_br (p := x1 < 0) (a := 11) (b := 2) (st' := []) inferInstance rfl rfl (fun hb => ?_) (fun hb => ?_)
  · have hq := hq.1 hb
    refine ev_fg [false, false] (loc' := [none, none]) rfl ?_
    exact s_House_isStage_3_11 (T := T) hq
  · have hq := hq.2 hb
    refine ev_seq 3 (ip' := 5) (loc' := [some (.ref 3), some (.int x1)]) (st' := [(.int (I 3 6)), (.int x1)]) (I1 := I) (T1 := T) rfl ?_
    refine ev_br (p := (I 3 6) ≤ x1) (a := 11) (b := 6) (st' := []) inferInstance rfl rfl (fun hb => ?_) (fun hb => ?_)
    · have hq := hq.1 hb
      refine ev_fg [false, false] (loc' := [none, none]) rfl ?_
      exact s_House_isStage_3_11 (T := T) hq
    · have hq := hq.2 hb
      refine ev_seq 2 (ip' := 8) (loc' := [some (.ref 3), some (.int x1)]) (st' := [(.int 6), (.int x1)]) (I1 := I) (T1 := T) rfl ?_
      refine ev_br (p := 6 ≤ x1) (a := 11) (b := 9) (st' := []) inferInstance rfl rfl (fun hb => ?_) (fun hb => ?_)
      · have hq := hq.1 hb
        refine ev_fg [false, false] (loc' := [none, none]) rfl ?_
        exact s_House_isStage_3_11 (T := T) hq
      · have hq := hq.2 hb
        refine ev_seq 2 (ip' := 12) (loc' := [some (.ref 3), some (.int x1)]) (st' := [(.int 1)]) (I1 := I) (T1 := T) rfl ?_
        refine ev_fg [false, false] (loc' := [none, none]) rfl ?_
        exact s_House_isStage_3_12 (T := T) hq
/-- FeltHarness$House.leastStrength(I)I -/
def t_House_leastStrength_3_0 (E : MEnv) (I : II) (T : TT) (Q : QQ) (x1 : Int32) : Prop := ev E 135 0 [some (.ref 3), some (.int x1)] [] I T (KI (fun v1 I1 T1 => Q (.inl (some (.int ((v1 / 3) + 1)))) I1 T1) (fun x I1 T1 => Q (.inr x) I1 T1))
theorem s_House_leastStrength_3_0 {E : MEnv} {I : II} {T : TT} {Q : QQ} {x1 : Int32} (hq : t_House_leastStrength_3_0 E I T Q x1) : ev E 134 0 [some (.ref 3), some (.int x1)] [] I T Q := by
  unfold t_House_leastStrength_3_0 at hq
  refine ev_seq 2 (ip' := 2) (loc' := [some (.ref 3), some (.int x1)]) (st' := [(.int x1), (.ref 3)]) (I1 := I) (T1 := T) rfl ?_
  refine ev_callI rfl rfl rfl (fun v1 I1 T1 hq => ?_) (fun x I1 T1 hq => ?_) hq
  · refine ev_seq 4 (ip' := 7) (loc' := [some (.ref 3), some (.int x1)]) (st' := [(.int ((v1 / 3) + 1))]) (I1 := I1) (T1 := T1) rfl ?_
    exact ev_ret rfl rfl hq
  · exact ⟨by decide, hq⟩
/-- FeltHarness$House.lengthOf(I)I -/
def t_House_lengthOf_3_10 (E : MEnv) (I : II) (T : TT) (Q : QQ) (y0 : Int32) : Prop := Q (.inl (some (.int y0))) I T
theorem s_House_lengthOf_3_10 {E : MEnv} {I : II} {T : TT} {Q : QQ} {y0 : Int32} (hq : t_House_lengthOf_3_10 E I T Q y0) : ev E 135 10 [none, none] [(.int y0)] I T Q := by
  unfold t_House_lengthOf_3_10 at hq
  exact ev_ret rfl rfl hq
def t_House_lengthOf_3_0 (E : MEnv) (I : II) (T : TT) (Q : QQ) (x1 : Int32) : Prop := ev E 136 0 [some (.ref 3), some (.int x1)] [] I T (KI (fun v1 I1 T1 => (v1 = 0 → (t_House_lengthOf_3_10 E I1 T1 Q 0)) ∧ (¬ (v1 = 0) → ((¬ x1 < 0 ∧ x1.toNatClampNeg < 6) ∧ (t_House_lengthOf_3_10 E I1 T1 Q (I1 7 x1.toNatClampNeg))))) (fun x I1 T1 => Q (.inr x) I1 T1))
theorem s_House_lengthOf_3_0 {E : MEnv} {I : II} {T : TT} {Q : QQ} {x1 : Int32} (hq : t_House_lengthOf_3_0 E I T Q x1) : ev E 135 0 [some (.ref 3), some (.int x1)] [] I T Q := by
  unfold t_House_lengthOf_3_0 at hq
  refine ev_seq 2 (ip' := 2) (loc' := [some (.ref 3), some (.int x1)]) (st' := [(.int x1), (.ref 3)]) (I1 := I) (T1 := T) rfl ?_
  refine ev_callI rfl rfl rfl (fun v1 I1 T1 hq => ?_) (fun x I1 T1 hq => ?_) hq
  · refine ev_br (p := v1 = 0) (a := 9) (b := 4) (st' := []) inferInstance rfl rfl (fun hb => ?_) (fun hb => ?_)
    · have hq := hq.1 hb
      refine ev_seq 1 (ip' := 10) (loc' := [some (.ref 3), some (.int x1)]) (st' := [(.int 0)]) (I1 := I1) (T1 := T1) rfl ?_
      refine ev_fg [false, false] (loc' := [none, none]) rfl ?_
      exact s_House_lengthOf_3_10 (T := T1) hq
    · have hq := hq.2 hb
      refine ev_seq 3 (ip' := 7) (loc' := [some (.ref 3), some (.int x1)]) (st' := [(.int x1), (.ref 7)]) (I1 := I1) (T1 := T1) rfl ?_
      obtain ⟨hg, hq⟩ := hq
      refine ev_iald rfl rfl hg ?_
      refine ev_seq 1 (ip' := 10) (loc' := [some (.ref 3), some (.int x1)]) (st' := [(.int (I1 7 x1.toNatClampNeg))]) (I1 := I1) (T1 := T1) rfl ?_
      refine ev_fg [false, false] (loc' := [none, none]) rfl ?_
      exact s_House_lengthOf_3_10 (T := T1) hq
  · exact ⟨by decide, hq⟩
/-- FeltHarness$House.pullOf(I)I -/
def t_House_pullOf_3_10 (E : MEnv) (I : II) (T : TT) (Q : QQ) (y0 : Int32) : Prop := Q (.inl (some (.int y0))) I T
theorem s_House_pullOf_3_10 {E : MEnv} {I : II} {T : TT} {Q : QQ} {y0 : Int32} (hq : t_House_pullOf_3_10 E I T Q y0) : ev E 125 10 [none, none] [(.int y0)] I T Q := by
  unfold t_House_pullOf_3_10 at hq
  exact ev_ret rfl rfl hq
def t_House_pullOf_3_0 (E : MEnv) (I : II) (T : TT) (Q : QQ) (x1 : Int32) : Prop := ev E 107 0 [some (.ref 3), some (.int x1)] [] I T (KI (fun v1 I1 T1 => (v1 = 0 → (t_House_pullOf_3_10 E I1 T1 Q 0)) ∧ (¬ (v1 = 0) → ((¬ x1 < 0 ∧ x1.toNatClampNeg < 8) ∧ (t_House_pullOf_3_10 E I1 T1 Q (I1 4 x1.toNatClampNeg))))) (fun x I1 T1 => Q (.inr x) I1 T1))
theorem s_House_pullOf_3_0 {E : MEnv} {I : II} {T : TT} {Q : QQ} {x1 : Int32} (hq : t_House_pullOf_3_0 E I T Q x1) : ev E 125 0 [some (.ref 3), some (.int x1)] [] I T Q := by
  unfold t_House_pullOf_3_0 at hq
  refine ev_seq 2 (ip' := 2) (loc' := [some (.ref 3), some (.int x1)]) (st' := [(.int x1), (.ref 3)]) (I1 := I) (T1 := T) rfl ?_
  refine ev_callI rfl rfl rfl (fun v1 I1 T1 hq => ?_) (fun x I1 T1 hq => ?_) hq
  · refine ev_br (p := v1 = 0) (a := 9) (b := 4) (st' := []) inferInstance rfl rfl (fun hb => ?_) (fun hb => ?_)
    · have hq := hq.1 hb
      refine ev_seq 1 (ip' := 10) (loc' := [some (.ref 3), some (.int x1)]) (st' := [(.int 0)]) (I1 := I1) (T1 := T1) rfl ?_
      refine ev_fg [false, false] (loc' := [none, none]) rfl ?_
      exact s_House_pullOf_3_10 (T := T1) hq
    · have hq := hq.2 hb
      refine ev_seq 3 (ip' := 7) (loc' := [some (.ref 3), some (.int x1)]) (st' := [(.int x1), (.ref 4)]) (I1 := I1) (T1 := T1) rfl ?_
      obtain ⟨hg, hq⟩ := hq
      refine ev_iald rfl rfl hg ?_
      refine ev_seq 1 (ip' := 10) (loc' := [some (.ref 3), some (.int x1)]) (st' := [(.int (I1 4 x1.toNatClampNeg))]) (I1 := I1) (T1 := T1) rfl ?_
      refine ev_fg [false, false] (loc' := [none, none]) rfl ?_
      exact s_House_pullOf_3_10 (T := T1) hq
  · exact ⟨by decide, hq⟩
/-- FeltHarness$House.read(LFeltHarness$Text;)V -/
def t_House_read_30 (E : MEnv) (I : II) (T : TT) (Q : QQ) : Prop := Q (.inl none) I T
theorem s_House_read_30 {E : MEnv} {I : II} {T : TT} {Q : QQ} (hq : t_House_read_30 E I T Q) : ev E 30 30 [none, none, none] [] I T Q := by
  unfold t_House_read_30 at hq
  exact ev_ret rfl rfl hq
def t_House_read_11 (E : MEnv) (I : II) (T : TT) (Q : QQ) (x2 : Int32) : Prop := (60 < x2 → (t_House_read_30 E I T Q )) ∧ (¬ (60 < x2) → (ev E 31 0 [some (.ref 1)] [] I T (KI (fun v1 I1 T1 => (v1 = 0 → (t_House_read_30 E I1 T1 Q )) ∧ (¬ (v1 = 0) → (ev E 32 0 [some (.ref 1)] [] I1 T1 (KI (fun v2 I2 T2 => (v2 = (-1) → (t_House_read_30 E I2 T2 Q )) ∧ (¬ (v2 = (-1)) → (ev E 33 0 [some (.ref 9), some (.ref 1), some (.int x2), none] [] I2 T2 (KV (fun I3 T3 => ev E 51 0 [some (.ref 1), some (.int 59)] [] I3 T3 (KV (fun I4 T4 => ev E 30 11 [some (.ref 9), some (.ref 1), some (.int (x2 + 1))] [] I4 T4 Q) (fun x I1 T1 => Q (.inr x) I1 T1))) (fun x I1 T1 => Q (.inr x) I1 T1))))) (fun x I1 T1 => Q (.inr x) I1 T1))))) (fun x I1 T1 => Q (.inr x) I1 T1))))
theorem s_House_read_11 {E : MEnv} {I : II} {T : TT} {Q : QQ} {x2 : Int32} (hq : t_House_read_11 E I T Q x2) : ev E 30 11 [some (.ref 9), some (.ref 1), some (.int x2)] [] I T Q := by
  unfold t_House_read_11 at hq
  refine ev_seq 2 (ip' := 13) (loc' := [some (.ref 9), some (.ref 1), some (.int x2)]) (st' := [(.int 60), (.int x2)]) (I1 := I) (T1 := T) rfl ?_
  refine ev_br (p := 60 < x2) (a := 30) (b := 14) (st' := []) inferInstance rfl rfl (fun hb => ?_) (fun hb => ?_)
  · have hq := hq.1 hb
    refine ev_fg [false, false, false] (loc' := [none, none, none]) rfl ?_
    exact s_House_read_30 (T := T) hq
  · have hq := hq.2 hb
    refine ev_seq 1 (ip' := 15) (loc' := [some (.ref 9), some (.ref 1), some (.int x2)]) (st' := [(.ref 1)]) (I1 := I) (T1 := T) rfl ?_
    refine ev_callI rfl rfl rfl (fun v1 I1 T1 hq => ?_) (fun x I1 T1 hq => ?_) hq
    · refine ev_br (p := v1 = 0) (a := 30) (b := 17) (st' := []) inferInstance rfl rfl (fun hb => ?_) (fun hb => ?_)
      · have hq := hq.1 hb
        refine ev_fg [false, false, false] (loc' := [none, none, none]) rfl ?_
        exact s_House_read_30 (T := T1) hq
      · have hq := hq.2 hb
        refine ev_seq 1 (ip' := 18) (loc' := [some (.ref 9), some (.ref 1), some (.int x2)]) (st' := [(.ref 1)]) (I1 := I1) (T1 := T1) rfl ?_
        refine ev_callI rfl rfl rfl (fun v2 I2 T2 hq => ?_) (fun x I1 T1 hq => ?_) hq
        · refine ev_seq 1 (ip' := 20) (loc' := [some (.ref 9), some (.ref 1), some (.int x2)]) (st' := [(.int (-1)), (.int v2)]) (I1 := I2) (T1 := T2) rfl ?_
          refine ev_br (p := v2 = (-1)) (a := 30) (b := 21) (st' := []) inferInstance rfl rfl (fun hb => ?_) (fun hb => ?_)
          · have hq := hq.1 hb
            refine ev_fg [false, false, false] (loc' := [none, none, none]) rfl ?_
            exact s_House_read_30 (T := T2) hq
          · have hq := hq.2 hb
            refine ev_seq 3 (ip' := 24) (loc' := [some (.ref 9), some (.ref 1), some (.int x2)]) (st' := [(.int x2), (.ref 1), (.ref 9)]) (I1 := I2) (T1 := T2) rfl ?_
            refine ev_callV rfl rfl rfl (fun I3 T3 hq => ?_) (fun x I1 T1 hq => ?_) hq
            · refine ev_seq 2 (ip' := 27) (loc' := [some (.ref 9), some (.ref 1), some (.int x2)]) (st' := [(.int 59), (.ref 1)]) (I1 := I3) (T1 := T3) rfl ?_
              refine ev_callV rfl rfl rfl (fun I4 T4 hq => ?_) (fun x I1 T1 hq => ?_) hq
              · refine ev_seq 2 (ip' := 11) (loc' := [some (.ref 9), some (.ref 1), some (.int (x2 + 1))]) (st' := []) (I1 := I4) (T1 := T4) rfl ?_
                exact hq
              · exact ⟨by decide, hq⟩
            · exact ⟨by decide, hq⟩
        · exact ⟨by decide, hq⟩
    · exact ⟨by decide, hq⟩
def t_House_read_0 (E : MEnv) (I : II) (T : TT) (Q : QQ) : Prop := t_House_read_11 E (m_up (m_up (m_up I 9 5 0) 9 6 0) 9 7 12) T Q 0
theorem s_House_read_0 {E : MEnv} {I : II} {T : TT} {Q : QQ} (hq : t_House_read_0 E I T Q) : ev E 30 0 [some (.ref 9), some (.ref 1), none] [] I T Q := by
  unfold t_House_read_0 at hq
  refine ev_seq 11 (ip' := 11) (loc' := [some (.ref 9), some (.ref 1), some (.int 0)]) (st' := []) (I1 := m_up (m_up (m_up I 9 5 0) 9 6 0) 9 7 12) (T1 := T) rfl ?_
  exact s_House_read_11 (T := T) hq
/-- FeltHarness$House.readClash(LFeltHarness$Text;)V -/
def t_House_readClash_57 (E : MEnv) (I : II) (T : TT) (Q : QQ) : Prop := Q (.inl none) I T
theorem s_House_readClash_57 {E : MEnv} {I : II} {T : TT} {Q : QQ} (hq : t_House_readClash_57 E I T Q) : ev E 49 57 [none, none, none, none] [] I T Q := by
  unfold t_House_readClash_57 at hq
  exact ev_ret rfl rfl hq
def t_House_readClash_24 (E : MEnv) (I : II) (T : TT) (Q : QQ) (x2 : Int32) (x3 : Int32) : Prop := ev E 31 0 [some (.ref 1)] [] I T (KI (fun v1 I1 T1 => (v1 = 0 → (t_House_readClash_57 E I1 T1 Q )) ∧ (¬ (v1 = 0) → (ev E 27 0 [some (.int x2), some (.int 0), some (.int 7)] [] I1 T1 (KI (fun v2 I2 T2 => (v2 = 0 → (t_House_readClash_57 E I2 T2 Q )) ∧ (¬ (v2 = 0) → (ev E 27 0 [some (.int x3), some (.int 0), some (.int 7)] [] I2 T2 (KI (fun v3 I3 T3 => (v3 = 0 → (t_House_readClash_57 E I3 T3 Q )) ∧ (¬ (v3 = 0) → ((¬ x2 < 0 ∧ x2.toNatClampNeg < 8) ∧ ((¬ x2 < 0 ∧ x2.toNatClampNeg < 8) ∧ ((¬ x3 < 0 ∧ x3.toNatClampNeg < 8) ∧ ((¬ x3 < 0 ∧ x3.toNatClampNeg < 8) ∧ (t_House_readClash_57 E (m_up (m_up I3 12 x2.toNatClampNeg ((I3 12 x2.toNatClampNeg) ||| ((1 : Int32) <<< (x3 &&& 31)))) 12 x3.toNatClampNeg (((m_up I3 12 x2.toNatClampNeg ((I3 12 x2.toNatClampNeg) ||| ((1 : Int32) <<< (x3 &&& 31)))) 12 x3.toNatClampNeg) ||| ((1 : Int32) <<< (x2 &&& 31)))) T3 Q ))))))) (fun _ _ _ => False))))) (fun _ _ _ => False))))) (fun x I1 T1 => Q (.inr x) I1 T1))
theorem s_House_readClash_24 {E : MEnv} {I : II} {T : TT} {Q : QQ} {x2 : Int32} {x3 : Int32} (hq : t_House_readClash_24 E I T Q x2 x3) : ev E 49 24 [some (.ref 9), some (.ref 1), some (.int x2), some (.int x3)] [] I T Q := by
  unfold t_House_readClash_24 at hq
  refine ev_seq 1 (ip' := 25) (loc' := [some (.ref 9), some (.ref 1), some (.int x2), some (.int x3)]) (st' := [(.ref 1)]) (I1 := I) (T1 := T) rfl ?_
  refine ev_callI rfl rfl rfl (fun v1 I1 T1 hq => ?_) (fun x I1 T1 hq => ?_) hq
  · refine ev_br (p := v1 = 0) (a := 57) (b := 27) (st' := []) inferInstance rfl rfl (fun hb => ?_) (fun hb => ?_)
    · have hq := hq.1 hb
      refine ev_fg [false, false, false, false] (loc' := [none, none, none, none]) rfl ?_
      exact s_House_readClash_57 (T := T1) hq
    · have hq := hq.2 hb
      refine ev_seq 3 (ip' := 30) (loc' := [some (.ref 9), some (.ref 1), some (.int x2), some (.int x3)]) (st' := [(.int 7), (.int 0), (.int x2)]) (I1 := I1) (T1 := T1) rfl ?_
      refine ev_callI rfl rfl rfl (fun v2 I2 T2 hq => ?_) (fun x I1 T1 hq => ?_) hq
      · refine ev_br (p := v2 = 0) (a := 57) (b := 32) (st' := []) inferInstance rfl rfl (fun hb => ?_) (fun hb => ?_)
        · have hq := hq.1 hb
          refine ev_fg [false, false, false, false] (loc' := [none, none, none, none]) rfl ?_
          exact s_House_readClash_57 (T := T2) hq
        · have hq := hq.2 hb
          refine ev_seq 3 (ip' := 35) (loc' := [some (.ref 9), some (.ref 1), some (.int x2), some (.int x3)]) (st' := [(.int 7), (.int 0), (.int x3)]) (I1 := I2) (T1 := T2) rfl ?_
          refine ev_callI rfl rfl rfl (fun v3 I3 T3 hq => ?_) (fun x I1 T1 hq => ?_) hq
          · refine ev_br (p := v3 = 0) (a := 57) (b := 37) (st' := []) inferInstance rfl rfl (fun hb => ?_) (fun hb => ?_)
            · have hq := hq.1 hb
              refine ev_fg [false, false, false, false] (loc' := [none, none, none, none]) rfl ?_
              exact s_House_readClash_57 (T := T3) hq
            · have hq := hq.2 hb
              refine ev_seq 4 (ip' := 41) (loc' := [some (.ref 9), some (.ref 1), some (.int x2), some (.int x3)]) (st' := [(.int x2), (.ref 12), (.int x2), (.ref 12)]) (I1 := I3) (T1 := T3) rfl ?_
              obtain ⟨hg, hq⟩ := hq
              refine ev_iald rfl rfl hg ?_
              refine ev_seq 4 (ip' := 46) (loc' := [some (.ref 9), some (.ref 1), some (.int x2), some (.int x3)]) (st' := [(.int ((I3 12 x2.toNatClampNeg) ||| ((1 : Int32) <<< (x3 &&& 31)))), (.int x2), (.ref 12)]) (I1 := I3) (T1 := T3) rfl ?_
              obtain ⟨hg, hq⟩ := hq
              refine ev_iast rfl rfl hg ?_
              refine ev_seq 4 (ip' := 51) (loc' := [some (.ref 9), some (.ref 1), some (.int x2), some (.int x3)]) (st' := [(.int x3), (.ref 12), (.int x3), (.ref 12)]) (I1 := m_up I3 12 x2.toNatClampNeg ((I3 12 x2.toNatClampNeg) ||| ((1 : Int32) <<< (x3 &&& 31)))) (T1 := T3) rfl ?_
              obtain ⟨hg, hq⟩ := hq
              refine ev_iald rfl rfl hg ?_
              refine ev_seq 4 (ip' := 56) (loc' := [some (.ref 9), some (.ref 1), some (.int x2), some (.int x3)]) (st' := [(.int (((m_up I3 12 x2.toNatClampNeg ((I3 12 x2.toNatClampNeg) ||| ((1 : Int32) <<< (x3 &&& 31)))) 12 x3.toNatClampNeg) ||| ((1 : Int32) <<< (x2 &&& 31)))), (.int x3), (.ref 12)]) (I1 := m_up I3 12 x2.toNatClampNeg ((I3 12 x2.toNatClampNeg) ||| ((1 : Int32) <<< (x3 &&& 31)))) (T1 := T3) rfl ?_
              obtain ⟨hg, hq⟩ := hq
              refine ev_iast rfl rfl hg ?_
              refine ev_fg [false, false, false, false] (loc' := [none, none, none, none]) rfl ?_
              exact s_House_readClash_57 (T := T3) hq
          · exact hq.elim
      · exact hq.elim
  · exact ⟨by decide, hq⟩
def t_House_readClash_0 (E : MEnv) (I : II) (T : TT) (Q : QQ) : Prop := ev E 47 0 [some (.ref 1), some (.int 0), some (.int ((I 9 5) - 1)), none, none] [] I T (KI (fun v1 I1 T1 => ev E 47 0 [some (.ref 1), some (.int 0), some (.int ((I1 9 5) - 1)), none, none] [] I1 T1 (KI (fun v2 I2 T2 => (v1 = v2 → (ev E 45 0 [some (.ref 1), some (.int 2), some (.int (I2 1 4))] [] I2 T2 (KV (fun I3 T3 => t_House_readClash_24 E I3 T3 Q v1 v2) (fun x I1 T1 => Q (.inr x) I1 T1)))) ∧ (¬ (v1 = v2) → (t_House_readClash_24 E I2 T2 Q v1 v2))) (fun x I1 T1 => Q (.inr x) I1 T1))) (fun x I1 T1 => Q (.inr x) I1 T1))
theorem s_House_readClash_0 {E : MEnv} {I : II} {T : TT} {Q : QQ} (hq : t_House_readClash_0 E I T Q) : ev E 49 0 [some (.ref 9), some (.ref 1), none, none] [] I T Q := by
  unfold t_House_readClash_0 at hq
  refine ev_seq 6 (ip' := 6) (loc' := [some (.ref 9), some (.ref 1), none, none]) (st' := [(.int ((I 9 5) - 1)), (.int 0), (.ref 1)]) (I1 := I) (T1 := T) rfl ?_
  refine ev_callI rfl rfl rfl (fun v1 I1 T1 hq => ?_) (fun x I1 T1 hq => ?_) hq
  · refine ev_seq 7 (ip' := 14) (loc' := [some (.ref 9), some (.ref 1), some (.int v1), none]) (st' := [(.int ((I1 9 5) - 1)), (.int 0), (.ref 1)]) (I1 := I1) (T1 := T1) rfl ?_
    refine ev_callI rfl rfl rfl (fun v2 I2 T2 hq => ?_) (fun x I1 T1 hq => ?_) hq
    · refine ev_seq 3 (ip' := 18) (loc' := [some (.ref 9), some (.ref 1), some (.int v1), some (.int v2)]) (st' := [(.int v2), (.int v1)]) (I1 := I2) (T1 := T2) rfl ?_
      refine ev_br (p := v1 = v2) (a := 19) (b := 24) (st' := []) inferInstance rfl rfl (fun hb => ?_) (fun hb => ?_)
      · have hq := hq.1 hb
        refine ev_seq 4 (ip' := 23) (loc' := [some (.ref 9), some (.ref 1), some (.int v1), some (.int v2)]) (st' := [(.int (I2 1 4)), (.int 2), (.ref 1)]) (I1 := I2) (T1 := T2) rfl ?_
        refine ev_callV rfl rfl rfl (fun I3 T3 hq => ?_) (fun x I1 T1 hq => ?_) hq
        · exact s_House_readClash_24 (T := T3) hq
        · exact ⟨by decide, hq⟩
      · have hq := hq.2 hb
        exact s_House_readClash_24 (T := T2) hq
    · exact ⟨by decide, hq⟩
  · exact ⟨by decide, hq⟩
/-- FeltHarness$House.readClause(LFeltHarness$Text;I)V -/
def t_House_readClause_55 (E : MEnv) (I : II) (T : TT) (Q : QQ) : Prop := Q (.inl none) I T
theorem s_House_readClause_55 {E : MEnv} {I : II} {T : TT} {Q : QQ} (hq : t_House_readClause_55 E I T Q) : ev E 33 55 [none, none, none, none] [] I T Q := by
  unfold t_House_readClause_55 at hq
  exact ev_ret rfl rfl hq
def t_House_readClause_25 (E : MEnv) (I : II) (T : TT) (Q : QQ) (x3 : Int32) : Prop := ev E 31 0 [some (.ref 1)] [] I T (KI (fun v1 I1 T1 => (v1 = 0 → (Q (.inl none) I1 T1)) ∧ (¬ (v1 = 0) → ((x3 = 0 → (ev E 46 0 [some (.ref 9), some (.ref 1), none, none] [] I1 T1 (KV (fun I2 T2 => t_House_readClause_55 E I2 T2 Q ) (fun x I1 T1 => Q (.inr x) I1 T1)))) ∧ (¬ (x3 = 0) → ((x3 = 1 → (ev E 49 0 [some (.ref 9), some (.ref 1), none, none] [] I1 T1 (KV (fun I3 T3 => t_House_readClause_55 E I3 T3 Q ) (fun x I1 T1 => Q (.inr x) I1 T1)))) ∧ (¬ (x3 = 1) → ((x3 = 2 → (ev E 50 0 [some (.ref 9), some (.ref 1), none, none] [] I1 T1 (KV (fun I4 T4 => t_House_readClause_55 E I4 T4 Q ) (fun x I1 T1 => Q (.inr x) I1 T1)))) ∧ (¬ (x3 = 2) → (ev E 47 0 [some (.ref 1), some (.int 1), some (.int 40), none, none] [] I1 T1 (KI (fun v5 I5 T5 => t_House_readClause_55 E (m_up I5 9 7 v5) T5 Q ) (fun x I1 T1 => Q (.inr x) I1 T1))))))))))) (fun x I1 T1 => Q (.inr x) I1 T1))
theorem s_House_readClause_25 {E : MEnv} {I : II} {T : TT} {Q : QQ} {x3 : Int32} (hq : t_House_readClause_25 E I T Q x3) : ev E 33 25 [some (.ref 9), some (.ref 1), none, some (.int x3)] [] I T Q := by
  unfold t_House_readClause_25 at hq
  refine ev_seq 1 (ip' := 26) (loc' := [some (.ref 9), some (.ref 1), none, some (.int x3)]) (st' := [(.ref 1)]) (I1 := I) (T1 := T) rfl ?_
  refine ev_callI rfl rfl rfl (fun v1 I1 T1 hq => ?_) (fun x I1 T1 hq => ?_) hq
  · refine ev_br (p := v1 = 0) (a := 28) (b := 29) (st' := []) inferInstance rfl rfl (fun hb => ?_) (fun hb => ?_)
    · have hq := hq.1 hb
      exact ev_ret rfl rfl hq
    · have hq := hq.2 hb
      refine ev_seq 1 (ip' := 30) (loc' := [some (.ref 9), some (.ref 1), none, some (.int x3)]) (st' := [(.int x3)]) (I1 := I1) (T1 := T1) rfl ?_
      refine ev_br (p := x3 = 0) (a := 31) (b := 35) (st' := []) inferInstance rfl rfl (fun hb => ?_) (fun hb => ?_)
      · have hq := hq.1 hb
        refine ev_seq 2 (ip' := 33) (loc' := [some (.ref 9), some (.ref 1), none, some (.int x3)]) (st' := [(.ref 1), (.ref 9)]) (I1 := I1) (T1 := T1) rfl ?_
        refine ev_callV rfl rfl rfl (fun I2 T2 hq => ?_) (fun x I1 T1 hq => ?_) hq
        · refine ev_seq 1 (ip' := 55) (loc' := [some (.ref 9), some (.ref 1), none, some (.int x3)]) (st' := []) (I1 := I2) (T1 := T2) rfl ?_
          refine ev_fg [false, false, true, false] (loc' := [none, none, none, none]) rfl ?_
          exact s_House_readClause_55 (T := T2) hq
        · exact ⟨by decide, hq⟩
      · have hq := hq.2 hb
        refine ev_seq 2 (ip' := 37) (loc' := [some (.ref 9), some (.ref 1), none, some (.int x3)]) (st' := [(.int 1), (.int x3)]) (I1 := I1) (T1 := T1) rfl ?_
        refine ev_br (p := x3 = 1) (a := 38) (b := 42) (st' := []) inferInstance rfl rfl (fun hb => ?_) (fun hb => ?_)
        · have hq := hq.1 hb
          refine ev_seq 2 (ip' := 40) (loc' := [some (.ref 9), some (.ref 1), none, some (.int x3)]) (st' := [(.ref 1), (.ref 9)]) (I1 := I1) (T1 := T1) rfl ?_
          refine ev_callV rfl rfl rfl (fun I3 T3 hq => ?_) (fun x I1 T1 hq => ?_) hq
          · refine ev_seq 1 (ip' := 55) (loc' := [some (.ref 9), some (.ref 1), none, some (.int x3)]) (st' := []) (I1 := I3) (T1 := T3) rfl ?_
            refine ev_fg [false, false, true, false] (loc' := [none, none, none, none]) rfl ?_
            exact s_House_readClause_55 (T := T3) hq
          · exact ⟨by decide, hq⟩
        · have hq := hq.2 hb
          refine ev_seq 2 (ip' := 44) (loc' := [some (.ref 9), some (.ref 1), none, some (.int x3)]) (st' := [(.int 2), (.int x3)]) (I1 := I1) (T1 := T1) rfl ?_
          refine ev_br (p := x3 = 2) (a := 45) (b := 49) (st' := []) inferInstance rfl rfl (fun hb => ?_) (fun hb => ?_)
          · have hq := hq.1 hb
            refine ev_seq 2 (ip' := 47) (loc' := [some (.ref 9), some (.ref 1), none, some (.int x3)]) (st' := [(.ref 1), (.ref 9)]) (I1 := I1) (T1 := T1) rfl ?_
            refine ev_callV rfl rfl rfl (fun I4 T4 hq => ?_) (fun x I1 T1 hq => ?_) hq
            · refine ev_seq 1 (ip' := 55) (loc' := [some (.ref 9), some (.ref 1), none, some (.int x3)]) (st' := []) (I1 := I4) (T1 := T4) rfl ?_
              refine ev_fg [false, false, true, false] (loc' := [none, none, none, none]) rfl ?_
              exact s_House_readClause_55 (T := T4) hq
            · exact ⟨by decide, hq⟩
          · have hq := hq.2 hb
            refine ev_seq 4 (ip' := 53) (loc' := [some (.ref 9), some (.ref 1), none, some (.int x3)]) (st' := [(.int 40), (.int 1), (.ref 1), (.ref 9)]) (I1 := I1) (T1 := T1) rfl ?_
            refine ev_callI rfl rfl rfl (fun v5 I5 T5 hq => ?_) (fun x I1 T1 hq => ?_) hq
            · refine ev_seq 1 (ip' := 55) (loc' := [some (.ref 9), some (.ref 1), none, some (.int x3)]) (st' := []) (I1 := m_up I5 9 7 v5) (T1 := T5) rfl ?_
              refine ev_fg [false, false, true, false] (loc' := [none, none, none, none]) rfl ?_
              exact s_House_readClause_55 (T := T5) hq
            · exact ⟨by decide, hq⟩
  · exact ⟨by decide, hq⟩
def t_House_readClause_20 (E : MEnv) (I : II) (T : TT) (Q : QQ) (x3 : Int32) : Prop := ev E 45 0 [some (.ref 1), some (.int 3), some (.int (I 1 4))] [] I T (KV (fun I1 T1 => t_House_readClause_25 E I1 T1 Q x3) (fun x I1 T1 => Q (.inr x) I1 T1))
theorem s_House_readClause_20 {E : MEnv} {I : II} {T : TT} {Q : QQ} {x3 : Int32} (hq : t_House_readClause_20 E I T Q x3) : ev E 33 20 [some (.ref 9), some (.ref 1), none, some (.int x3)] [] I T Q := by
  unfold t_House_readClause_20 at hq
  refine ev_seq 4 (ip' := 24) (loc' := [some (.ref 9), some (.ref 1), none, some (.int x3)]) (st' := [(.int (I 1 4)), (.int 3), (.ref 1)]) (I1 := I) (T1 := T) rfl ?_
  refine ev_callV rfl rfl rfl (fun I1 T1 hq => ?_) (fun x I1 T1 hq => ?_) hq
  · exact s_House_readClause_25 (T := T1) hq
  · exact ⟨by decide, hq⟩
def t_House_readClause_13 (E : MEnv) (I : II) (T : TT) (Q : QQ) (x3 : Int32) : Prop := (x3 = 2 → (((I 9 6) < 6 → (t_House_readClause_25 E I T Q x3)) ∧ (¬ ((I 9 6) < 6) → (t_House_readClause_20 E I T Q x3)))) ∧ (¬ (x3 = 2) → (t_House_readClause_25 E I T Q x3))
theorem s_House_readClause_13 {E : MEnv} {I : II} {T : TT} {Q : QQ} {x3 : Int32} (hq : t_House_readClause_13 E I T Q x3) : ev E 33 13 [some (.ref 9), some (.ref 1), none, some (.int x3)] [] I T Q := by
  unfold t_House_readClause_13 at hq
  refine ev_seq 2 (ip' := 15) (loc' := [some (.ref 9), some (.ref 1), none, some (.int x3)]) (st' := [(.int 2), (.int x3)]) (I1 := I) (T1 := T) rfl ?_
  refine ev_br (p := x3 = 2) (a := 16) (b := 25) (st' := []) inferInstance rfl rfl (fun hb => ?_) (fun hb => ?_)
  · have hq := hq.1 hb
    refine ev_seq 3 (ip' := 19) (loc' := [some (.ref 9), some (.ref 1), none, some (.int x3)]) (st' := [(.int 6), (.int (I 9 6))]) (I1 := I) (T1 := T) rfl ?_
    refine ev_br (p := (I 9 6) < 6) (a := 25) (b := 20) (st' := []) inferInstance rfl rfl (fun hb => ?_) (fun hb => ?_)
    · have hq := hq.1 hb
      exact s_House_readClause_25 (T := T) hq
    · have hq := hq.2 hb
      exact s_House_readClause_20 (T := T) hq
  · have hq := hq.2 hb
    exact s_House_readClause_25 (T := T) hq
def t_House_readClause_0 (E : MEnv) (I : II) (T : TT) (Q : QQ) (x2 : Int32) : Prop := ev E 34 0 [some (.ref 1), some (.ref 1000003), none, none, none] [] I T (KI (fun v1 I1 T1 => (60 ≤ x2 → (t_House_readClause_20 E I1 T1 Q v1)) ∧ (¬ (60 ≤ x2) → ((v1 = 0 → ((8 ≤ (I1 9 5) → (t_House_readClause_20 E I1 T1 Q v1)) ∧ (¬ (8 ≤ (I1 9 5)) → (t_House_readClause_13 E I1 T1 Q v1)))) ∧ (¬ (v1 = 0) → (t_House_readClause_13 E I1 T1 Q v1))))) (fun x I1 T1 => Q (.inr x) I1 T1))
theorem s_House_readClause_0 {E : MEnv} {I : II} {T : TT} {Q : QQ} {x2 : Int32} (hq : t_House_readClause_0 E I T Q x2) : ev E 33 0 [some (.ref 9), some (.ref 1), some (.int x2), none] [] I T Q := by
  unfold t_House_readClause_0 at hq
  refine ev_seq 2 (ip' := 2) (loc' := [some (.ref 9), some (.ref 1), some (.int x2), none]) (st' := [(.ref 1000003), (.ref 1)]) (I1 := I) (T1 := T) rfl ?_
  refine ev_callI rfl rfl rfl (fun v1 I1 T1 hq => ?_) (fun x I1 T1 hq => ?_) hq
  · refine ev_seq 3 (ip' := 6) (loc' := [some (.ref 9), some (.ref 1), some (.int x2), some (.int v1)]) (st' := [(.int 60), (.int x2)]) (I1 := I1) (T1 := T1) rfl ?_
    refine ev_br (p := 60 ≤ x2) (a := 20) (b := 7) (st' := []) inferInstance rfl rfl (fun hb => ?_) (fun hb => ?_)
    · have hq := hq.1 hb
      refine ev_fg [true, true, false, true] (loc' := [some (.ref 9), some (.ref 1), none, some (.int v1)]) rfl ?_
      exact s_House_readClause_20 (T := T1) hq
    · have hq := hq.2 hb
      refine ev_seq 1 (ip' := 8) (loc' := [some (.ref 9), some (.ref 1), some (.int x2), some (.int v1)]) (st' := [(.int v1)]) (I1 := I1) (T1 := T1) rfl ?_
      refine ev_br (p := v1 = 0) (a := 9) (b := 13) (st' := []) inferInstance rfl rfl (fun hb => ?_) (fun hb => ?_)
      · have hq := hq.1 hb
        refine ev_seq 3 (ip' := 12) (loc' := [some (.ref 9), some (.ref 1), some (.int x2), some (.int v1)]) (st' := [(.int 8), (.int (I1 9 5))]) (I1 := I1) (T1 := T1) rfl ?_
        refine ev_br (p := 8 ≤ (I1 9 5)) (a := 20) (b := 13) (st' := []) inferInstance rfl rfl (fun hb => ?_) (fun hb => ?_)
        · have hq := hq.1 hb
          refine ev_fg [true, true, false, true] (loc' := [some (.ref 9), some (.ref 1), none, some (.int v1)]) rfl ?_
          exact s_House_readClause_20 (T := T1) hq
        · have hq := hq.2 hb
          refine ev_fg [true, true, false, true] (loc' := [some (.ref 9), some (.ref 1), none, some (.int v1)]) rfl ?_
          exact s_House_readClause_13 (T := T1) hq
      · have hq := hq.2 hb
        refine ev_fg [true, true, false, true] (loc' := [some (.ref 9), some (.ref 1), none, some (.int v1)]) rfl ?_
        exact s_House_readClause_13 (T := T1) hq
  · exact ⟨by decide, hq⟩
/-- FeltHarness$House.readFeeling(LFeltHarness$Text;)V -/
def t_House_readFeeling_41 (E : MEnv) (I : II) (T : TT) (Q : QQ) : Prop := Q (.inl none) I T
theorem s_House_readFeeling_41 {E : MEnv} {I : II} {T : TT} {Q : QQ} (hq : t_House_readFeeling_41 E I T Q) : ev E 46 41 [none, none, none, none] [] I T Q := by
  unfold t_House_readFeeling_41 at hq
  exact ev_ret rfl rfl hq
def t_House_readFeeling_0 (E : MEnv) (I : II) (T : TT) (Q : QQ) : Prop := ev E 47 0 [some (.ref 1), some (.int 1), some (.int 20), none, none] [] I T (KI (fun v1 I1 T1 => ev E 47 0 [some (.ref 1), some (.int 0), some (.int 9), none, none] [] I1 T1 (KI (fun v2 I2 T2 => ev E 31 0 [some (.ref 1)] [] I2 T2 (KI (fun v3 I3 T3 => (v3 = 0 → (t_House_readFeeling_41 E I3 T3 Q )) ∧ (¬ (v3 = 0) → ((8 ≤ (I3 9 5) → (t_House_readFeeling_41 E I3 T3 Q )) ∧ (¬ (8 ≤ (I3 9 5)) → ((¬ (I3 9 5) < 0 ∧ (I3 9 5).toNatClampNeg < 8) ∧ ((¬ ((m_up I3 10 (I3 9 5).toNatClampNeg v1) 9 5) < 0 ∧ ((m_up I3 10 (I3 9 5).toNatClampNeg v1) 9 5).toNatClampNeg < 8) ∧ ((¬ ((m_up (m_up I3 10 (I3 9 5).toNatClampNeg v1) 11 ((m_up I3 10 (I3 9 5).toNatClampNeg v1) 9 5).toNatClampNeg v2) 9 5) < 0 ∧ ((m_up (m_up I3 10 (I3 9 5).toNatClampNeg v1) 11 ((m_up I3 10 (I3 9 5).toNatClampNeg v1) 9 5).toNatClampNeg v2) 9 5).toNatClampNeg < 8) ∧ (t_House_readFeeling_41 E (m_up (m_up (m_up (m_up I3 10 (I3 9 5).toNatClampNeg v1) 11 ((m_up I3 10 (I3 9 5).toNatClampNeg v1) 9 5).toNatClampNeg v2) 12 ((m_up (m_up I3 10 (I3 9 5).toNatClampNeg v1) 11 ((m_up I3 10 (I3 9 5).toNatClampNeg v1) 9 5).toNatClampNeg v2) 9 5).toNatClampNeg 0) 9 5 (((m_up (m_up (m_up I3 10 (I3 9 5).toNatClampNeg v1) 11 ((m_up I3 10 (I3 9 5).toNatClampNeg v1) 9 5).toNatClampNeg v2) 12 ((m_up (m_up I3 10 (I3 9 5).toNatClampNeg v1) 11 ((m_up I3 10 (I3 9 5).toNatClampNeg v1) 9 5).toNatClampNeg v2) 9 5).toNatClampNeg 0) 9 5) + 1)) T3 Q )))))))) (fun x I1 T1 => Q (.inr x) I1 T1))) (fun x I1 T1 => Q (.inr x) I1 T1))) (fun x I1 T1 => Q (.inr x) I1 T1))
theorem s_House_readFeeling_0 {E : MEnv} {I : II} {T : TT} {Q : QQ} (hq : t_House_readFeeling_0 E I T Q) : ev E 46 0 [some (.ref 9), some (.ref 1), none, none] [] I T Q := by
  unfold t_House_readFeeling_0 at hq
  refine ev_seq 3 (ip' := 3) (loc' := [some (.ref 9), some (.ref 1), none, none]) (st' := [(.int 20), (.int 1), (.ref 1)]) (I1 := I) (T1 := T) rfl ?_
  refine ev_callI rfl rfl rfl (fun v1 I1 T1 hq => ?_) (fun x I1 T1 hq => ?_) hq
  · refine ev_seq 4 (ip' := 8) (loc' := [some (.ref 9), some (.ref 1), some (.int v1), none]) (st' := [(.int 9), (.int 0), (.ref 1)]) (I1 := I1) (T1 := T1) rfl ?_
    refine ev_callI rfl rfl rfl (fun v2 I2 T2 hq => ?_) (fun x I1 T1 hq => ?_) hq
    · refine ev_seq 2 (ip' := 11) (loc' := [some (.ref 9), some (.ref 1), some (.int v1), some (.int v2)]) (st' := [(.ref 1)]) (I1 := I2) (T1 := T2) rfl ?_
      refine ev_callI rfl rfl rfl (fun v3 I3 T3 hq => ?_) (fun x I1 T1 hq => ?_) hq
      · refine ev_br (p := v3 = 0) (a := 41) (b := 13) (st' := []) inferInstance rfl rfl (fun hb => ?_) (fun hb => ?_)
        · have hq := hq.1 hb
          refine ev_fg [false, false, false, false] (loc' := [none, none, none, none]) rfl ?_
          exact s_House_readFeeling_41 (T := T3) hq
        · have hq := hq.2 hb
          refine ev_seq 3 (ip' := 16) (loc' := [some (.ref 9), some (.ref 1), some (.int v1), some (.int v2)]) (st' := [(.int 8), (.int (I3 9 5))]) (I1 := I3) (T1 := T3) rfl ?_
          refine ev_br (p := 8 ≤ (I3 9 5)) (a := 41) (b := 17) (st' := []) inferInstance rfl rfl (fun hb => ?_) (fun hb => ?_)
          · have hq := hq.1 hb
            refine ev_fg [false, false, false, false] (loc' := [none, none, none, none]) rfl ?_
            exact s_House_readFeeling_41 (T := T3) hq
          · have hq := hq.2 hb
            refine ev_seq 5 (ip' := 22) (loc' := [some (.ref 9), some (.ref 1), some (.int v1), some (.int v2)]) (st' := [(.int v1), (.int (I3 9 5)), (.ref 10)]) (I1 := I3) (T1 := T3) rfl ?_
            obtain ⟨hg, hq⟩ := hq
            refine ev_iast rfl rfl hg ?_
            refine ev_seq 5 (ip' := 28) (loc' := [some (.ref 9), some (.ref 1), some (.int v1), some (.int v2)]) (st' := [(.int v2), (.int ((m_up I3 10 (I3 9 5).toNatClampNeg v1) 9 5)), (.ref 11)]) (I1 := m_up I3 10 (I3 9 5).toNatClampNeg v1) (T1 := T3) rfl ?_
            obtain ⟨hg, hq⟩ := hq
            refine ev_iast rfl rfl hg ?_
            refine ev_seq 5 (ip' := 34) (loc' := [some (.ref 9), some (.ref 1), some (.int v1), some (.int v2)]) (st' := [(.int 0), (.int ((m_up (m_up I3 10 (I3 9 5).toNatClampNeg v1) 11 ((m_up I3 10 (I3 9 5).toNatClampNeg v1) 9 5).toNatClampNeg v2) 9 5)), (.ref 12)]) (I1 := m_up (m_up I3 10 (I3 9 5).toNatClampNeg v1) 11 ((m_up I3 10 (I3 9 5).toNatClampNeg v1) 9 5).toNatClampNeg v2) (T1 := T3) rfl ?_
            obtain ⟨hg, hq⟩ := hq
            refine ev_iast rfl rfl hg ?_
            refine ev_seq 6 (ip' := 41) (loc' := [some (.ref 9), some (.ref 1), some (.int v1), some (.int v2)]) (st' := []) (I1 := m_up (m_up (m_up (m_up I3 10 (I3 9 5).toNatClampNeg v1) 11 ((m_up I3 10 (I3 9 5).toNatClampNeg v1) 9 5).toNatClampNeg v2) 12 ((m_up (m_up I3 10 (I3 9 5).toNatClampNeg v1) 11 ((m_up I3 10 (I3 9 5).toNatClampNeg v1) 9 5).toNatClampNeg v2) 9 5).toNatClampNeg 0) 9 5 (((m_up (m_up (m_up I3 10 (I3 9 5).toNatClampNeg v1) 11 ((m_up I3 10 (I3 9 5).toNatClampNeg v1) 9 5).toNatClampNeg v2) 12 ((m_up (m_up I3 10 (I3 9 5).toNatClampNeg v1) 11 ((m_up I3 10 (I3 9 5).toNatClampNeg v1) 9 5).toNatClampNeg v2) 9 5).toNatClampNeg 0) 9 5) + 1)) (T1 := T3) rfl ?_
            refine ev_fg [false, false, false, false] (loc' := [none, none, none, none]) rfl ?_
            exact s_House_readFeeling_41 (T := T3) hq
      · exact ⟨by decide, hq⟩
    · exact ⟨by decide, hq⟩
  · exact ⟨by decide, hq⟩
/-- FeltHarness$House.readStage(LFeltHarness$Text;)V -/
def t_House_readStage_35 (E : MEnv) (I : II) (T : TT) (Q : QQ) : Prop := Q (.inl none) I T
theorem s_House_readStage_35 {E : MEnv} {I : II} {T : TT} {Q : QQ} (hq : t_House_readStage_35 E I T Q) : ev E 50 35 [none, none, none, none] [] I T Q := by
  unfold t_House_readStage_35 at hq
  exact ev_ret rfl rfl hq
def t_House_readStage_0 (E : MEnv) (I : II) (T : TT) (Q : QQ) : Prop := ev E 47 0 [some (.ref 1), some (.int 1), some (.int 60), none, none] [] I T (KI (fun v1 I1 T1 => ev E 47 0 [some (.ref 1), some (.int 0), some (.int 9), none, none] [] I1 T1 (KI (fun v2 I2 T2 => ev E 31 0 [some (.ref 1)] [] I2 T2 (KI (fun v3 I3 T3 => (v3 = 0 → (t_House_readStage_35 E I3 T3 Q )) ∧ (¬ (v3 = 0) → ((6 ≤ (I3 9 6) → (t_House_readStage_35 E I3 T3 Q )) ∧ (¬ (6 ≤ (I3 9 6)) → ((¬ (I3 9 6) < 0 ∧ (I3 9 6).toNatClampNeg < 6) ∧ ((¬ ((m_up I3 13 (I3 9 6).toNatClampNeg v1) 9 6) < 0 ∧ ((m_up I3 13 (I3 9 6).toNatClampNeg v1) 9 6).toNatClampNeg < 6) ∧ (t_House_readStage_35 E (m_up (m_up (m_up I3 13 (I3 9 6).toNatClampNeg v1) 14 ((m_up I3 13 (I3 9 6).toNatClampNeg v1) 9 6).toNatClampNeg v2) 9 6 (((m_up (m_up I3 13 (I3 9 6).toNatClampNeg v1) 14 ((m_up I3 13 (I3 9 6).toNatClampNeg v1) 9 6).toNatClampNeg v2) 9 6) + 1)) T3 Q ))))))) (fun x I1 T1 => Q (.inr x) I1 T1))) (fun x I1 T1 => Q (.inr x) I1 T1))) (fun x I1 T1 => Q (.inr x) I1 T1))
theorem s_House_readStage_0 {E : MEnv} {I : II} {T : TT} {Q : QQ} (hq : t_House_readStage_0 E I T Q) : ev E 50 0 [some (.ref 9), some (.ref 1), none, none] [] I T Q := by
  unfold t_House_readStage_0 at hq
  refine ev_seq 3 (ip' := 3) (loc' := [some (.ref 9), some (.ref 1), none, none]) (st' := [(.int 60), (.int 1), (.ref 1)]) (I1 := I) (T1 := T) rfl ?_
  refine ev_callI rfl rfl rfl (fun v1 I1 T1 hq => ?_) (fun x I1 T1 hq => ?_) hq
  · refine ev_seq 4 (ip' := 8) (loc' := [some (.ref 9), some (.ref 1), some (.int v1), none]) (st' := [(.int 9), (.int 0), (.ref 1)]) (I1 := I1) (T1 := T1) rfl ?_
    refine ev_callI rfl rfl rfl (fun v2 I2 T2 hq => ?_) (fun x I1 T1 hq => ?_) hq
    · refine ev_seq 2 (ip' := 11) (loc' := [some (.ref 9), some (.ref 1), some (.int v1), some (.int v2)]) (st' := [(.ref 1)]) (I1 := I2) (T1 := T2) rfl ?_
      refine ev_callI rfl rfl rfl (fun v3 I3 T3 hq => ?_) (fun x I1 T1 hq => ?_) hq
      · refine ev_br (p := v3 = 0) (a := 35) (b := 13) (st' := []) inferInstance rfl rfl (fun hb => ?_) (fun hb => ?_)
        · have hq := hq.1 hb
          refine ev_fg [false, false, false, false] (loc' := [none, none, none, none]) rfl ?_
          exact s_House_readStage_35 (T := T3) hq
        · have hq := hq.2 hb
          refine ev_seq 3 (ip' := 16) (loc' := [some (.ref 9), some (.ref 1), some (.int v1), some (.int v2)]) (st' := [(.int 6), (.int (I3 9 6))]) (I1 := I3) (T1 := T3) rfl ?_
          refine ev_br (p := 6 ≤ (I3 9 6)) (a := 35) (b := 17) (st' := []) inferInstance rfl rfl (fun hb => ?_) (fun hb => ?_)
          · have hq := hq.1 hb
            refine ev_fg [false, false, false, false] (loc' := [none, none, none, none]) rfl ?_
            exact s_House_readStage_35 (T := T3) hq
          · have hq := hq.2 hb
            refine ev_seq 5 (ip' := 22) (loc' := [some (.ref 9), some (.ref 1), some (.int v1), some (.int v2)]) (st' := [(.int v1), (.int (I3 9 6)), (.ref 13)]) (I1 := I3) (T1 := T3) rfl ?_
            obtain ⟨hg, hq⟩ := hq
            refine ev_iast rfl rfl hg ?_
            refine ev_seq 5 (ip' := 28) (loc' := [some (.ref 9), some (.ref 1), some (.int v1), some (.int v2)]) (st' := [(.int v2), (.int ((m_up I3 13 (I3 9 6).toNatClampNeg v1) 9 6)), (.ref 14)]) (I1 := m_up I3 13 (I3 9 6).toNatClampNeg v1) (T1 := T3) rfl ?_
            obtain ⟨hg, hq⟩ := hq
            refine ev_iast rfl rfl hg ?_
            refine ev_seq 6 (ip' := 35) (loc' := [some (.ref 9), some (.ref 1), some (.int v1), some (.int v2)]) (st' := []) (I1 := m_up (m_up (m_up I3 13 (I3 9 6).toNatClampNeg v1) 14 ((m_up I3 13 (I3 9 6).toNatClampNeg v1) 9 6).toNatClampNeg v2) 9 6 (((m_up (m_up I3 13 (I3 9 6).toNatClampNeg v1) 14 ((m_up I3 13 (I3 9 6).toNatClampNeg v1) 9 6).toNatClampNeg v2) 9 6) + 1)) (T1 := T3) rfl ?_
            refine ev_fg [false, false, false, false] (loc' := [none, none, none, none]) rfl ?_
            exact s_House_readStage_35 (T := T3) hq
      · exact ⟨by decide, hq⟩
    · exact ⟨by decide, hq⟩
  · exact ⟨by decide, hq⟩
/-- FeltHarness$House.turnOf(I)I -/
def t_House_turnOf_3_10 (E : MEnv) (I : II) (T : TT) (Q : QQ) (y0 : Int32) : Prop := Q (.inl (some (.int y0))) I T
theorem s_House_turnOf_3_10 {E : MEnv} {I : II} {T : TT} {Q : QQ} {y0 : Int32} (hq : t_House_turnOf_3_10 E I T Q y0) : ev E 137 10 [none, none] [(.int y0)] I T Q := by
  unfold t_House_turnOf_3_10 at hq
  exact ev_ret rfl rfl hq
def t_House_turnOf_3_0 (E : MEnv) (I : II) (T : TT) (Q : QQ) (x1 : Int32) : Prop := ev E 136 0 [some (.ref 3), some (.int x1)] [] I T (KI (fun v1 I1 T1 => (v1 = 0 → (t_House_turnOf_3_10 E I1 T1 Q 0)) ∧ (¬ (v1 = 0) → ((¬ x1 < 0 ∧ x1.toNatClampNeg < 6) ∧ (t_House_turnOf_3_10 E I1 T1 Q (I1 8 x1.toNatClampNeg))))) (fun x I1 T1 => Q (.inr x) I1 T1))
theorem s_House_turnOf_3_0 {E : MEnv} {I : II} {T : TT} {Q : QQ} {x1 : Int32} (hq : t_House_turnOf_3_0 E I T Q x1) : ev E 137 0 [some (.ref 3), some (.int x1)] [] I T Q := by
  unfold t_House_turnOf_3_0 at hq
  refine ev_seq 2 (ip' := 2) (loc' := [some (.ref 3), some (.int x1)]) (st' := [(.int x1), (.ref 3)]) (I1 := I) (T1 := T) rfl ?_
  refine ev_callI rfl rfl rfl (fun v1 I1 T1 hq => ?_) (fun x I1 T1 hq => ?_) hq
  · refine ev_br (p := v1 = 0) (a := 9) (b := 4) (st' := []) inferInstance rfl rfl (fun hb => ?_) (fun hb => ?_)
    · have hq := hq.1 hb
      refine ev_seq 1 (ip' := 10) (loc' := [some (.ref 3), some (.int x1)]) (st' := [(.int 0)]) (I1 := I1) (T1 := T1) rfl ?_
      refine ev_fg [false, false] (loc' := [none, none]) rfl ?_
      exact s_House_turnOf_3_10 (T := T1) hq
    · have hq := hq.2 hb
      refine ev_seq 3 (ip' := 7) (loc' := [some (.ref 3), some (.int x1)]) (st' := [(.int x1), (.ref 8)]) (I1 := I1) (T1 := T1) rfl ?_
      obtain ⟨hg, hq⟩ := hq
      refine ev_iald rfl rfl hg ?_
      refine ev_seq 1 (ip' := 10) (loc' := [some (.ref 3), some (.int x1)]) (st' := [(.int (I1 8 x1.toNatClampNeg))]) (I1 := I1) (T1 := T1) rfl ?_
      refine ev_fg [false, false] (loc' := [none, none]) rfl ?_
      exact s_House_turnOf_3_10 (T := T1) hq
  · exact ⟨by decide, hq⟩
