/-- FeltHarnessModel.comes(I)I -/
def t_M_comes_36 (E : MEnv) (I : II) (T : TT) (Q : QQ) (y0 : Int32) : Prop := Q (.inl (some (.int y0))) I T
theorem s_M_comes_36 {E : MEnv} {I : II} {T : TT} {Q : QQ} {y0 : Int32} (hq : t_M_comes_36 E I T Q y0) : ev E 210 36 [none, none] [(.int y0)] I T Q := by
  unfold t_M_comes_36 at hq
  exact ev_ret rfl rfl hq
def t_M_comes_11 (E : MEnv) (I : II) (T : TT) (Q : QQ) (x1 : Int32) (y1 : Int32) : Prop := ev E 58 0 [some (.ref 46), some (.int y1), some (.int 1), some (.int 0)] [] I T (KI (fun v1 I1 T1 => (v1 = 0 → (ev E 152 0 [some (.ref 46), some (.ref 508), none, none] [] I1 T1 (KI (fun v2 I2 T2 => (v2 = 0 → (t_M_comes_36 E I2 T2 Q (-1))) ∧ (¬ (v2 = 0) → (ev E 156 0 [some (.ref 46), some (.ref 508), some (.int 1), none, none, none, none] [] I2 T2 (KI (fun v3 I3 T3 => ev E 164 0 [some (.ref 46), some (.ref 508), none] [] I3 T3 (KI (fun v4 I4 T4 => ev E 165 0 [some (.ref 46), some (.int x1), some (.int v3), some (.int v4)] [] I4 T4 (KI (fun v5 I5 T5 => t_M_comes_36 E I5 T5 Q v5) (fun x I1 T1 => Q (.inr x) I1 T1))) (fun x I1 T1 => Q (.inr x) I1 T1))) (fun x I1 T1 => Q (.inr x) I1 T1))))) (fun x I1 T1 => Q (.inr x) I1 T1)))) ∧ (¬ (v1 = 0) → (Q (.inl (some (.int 0))) I1 T1))) (fun x I1 T1 => Q (.inr x) I1 T1))
theorem s_M_comes_11 {E : MEnv} {I : II} {T : TT} {Q : QQ} {x1 : Int32} {y1 : Int32} (hq : t_M_comes_11 E I T Q x1 y1) : ev E 210 11 [some (.ref 46), some (.int x1)] [(.int y1), (.ref 46)] I T Q := by
  unfold t_M_comes_11 at hq
  refine ev_seq 2 (ip' := 13) (loc' := [some (.ref 46), some (.int x1)]) (st' := [(.int 0), (.int 1), (.int y1), (.ref 46)]) (I1 := I) (T1 := T) rfl ?_
  refine ev_callI rfl rfl rfl (fun v1 I1 T1 hq => ?_) (fun x I1 T1 hq => ?_) hq
  · refine ev_br (p := v1 = 0) (a := 17) (b := 15) (st' := []) inferInstance rfl rfl (fun hb => ?_) (fun hb => ?_)
    · have hq := hq.1 hb
      refine ev_seq 3 (ip' := 20) (loc' := [some (.ref 46), some (.int x1)]) (st' := [(.ref 508), (.ref 46)]) (I1 := I1) (T1 := T1) rfl ?_
      refine ev_callI rfl rfl rfl (fun v2 I2 T2 hq => ?_) (fun x I1 T1 hq => ?_) hq
      · refine ev_br (p := v2 = 0) (a := 22) (b := 24) (st' := []) inferInstance rfl rfl (fun hb => ?_) (fun hb => ?_)
        · have hq := hq.1 hb
          refine ev_seq 2 (ip' := 36) (loc' := [some (.ref 46), some (.int x1)]) (st' := [(.int (-1))]) (I1 := I2) (T1 := T2) rfl ?_
          refine ev_fg [false, false] (loc' := [none, none]) rfl ?_
          exact s_M_comes_36 (T := T2) hq
        · have hq := hq.2 hb
          refine ev_seq 6 (ip' := 30) (loc' := [some (.ref 46), some (.int x1)]) (st' := [(.int 1), (.ref 508), (.ref 46), (.int x1), (.ref 46)]) (I1 := I2) (T1 := T2) rfl ?_
          refine ev_callI rfl rfl rfl (fun v3 I3 T3 hq => ?_) (fun x I1 T1 hq => ?_) hq
          · refine ev_seq 3 (ip' := 34) (loc' := [some (.ref 46), some (.int x1)]) (st' := [(.ref 508), (.ref 46), (.int v3), (.int x1), (.ref 46)]) (I1 := I3) (T1 := T3) rfl ?_
            refine ev_callI rfl rfl rfl (fun v4 I4 T4 hq => ?_) (fun x I1 T1 hq => ?_) hq
            · refine ev_callI rfl rfl rfl (fun v5 I5 T5 hq => ?_) (fun x I1 T1 hq => ?_) hq
              · refine ev_fg [false, false] (loc' := [none, none]) rfl ?_
                exact s_M_comes_36 (T := T5) hq
              · exact ⟨by decide, hq⟩
            · exact ⟨by decide, hq⟩
          · exact ⟨by decide, hq⟩
      · exact ⟨by decide, hq⟩
    · have hq := hq.2 hb
      refine ev_seq 1 (ip' := 16) (loc' := [some (.ref 46), some (.int x1)]) (st' := [(.int 0)]) (I1 := I1) (T1 := T1) rfl ?_
      exact ev_ret rfl rfl hq
  · exact ⟨by decide, hq⟩
def t_M_comes_0 (E : MEnv) (I : II) (T : TT) (Q : QQ) (x1 : Int32) : Prop := ev E 195 0 [some (.ref 46), some (.int x1)] [] (m_up I 46 0 0) T (KI (fun v1 I1 T1 => (v1 = 0 → (t_M_comes_11 E I1 T1 Q x1 1)) ∧ (¬ (v1 = 0) → (t_M_comes_11 E I1 T1 Q x1 0))) (fun x I1 T1 => Q (.inr x) I1 T1))
theorem s_M_comes_0 {E : MEnv} {I : II} {T : TT} {Q : QQ} {x1 : Int32} (hq : t_M_comes_0 E I T Q x1) : ev E 210 0 [some (.ref 46), some (.int x1)] [] I T Q := by
  unfold t_M_comes_0 at hq
  refine ev_seq 6 (ip' := 6) (loc' := [some (.ref 46), some (.int x1)]) (st' := [(.int x1), (.ref 46), (.ref 46)]) (I1 := m_up I 46 0 0) (T1 := T) rfl ?_
  refine ev_callI rfl rfl rfl (fun v1 I1 T1 hq => ?_) (fun x I1 T1 hq => ?_) hq
  · refine ev_br (p := v1 = 0) (a := 8) (b := 10) (st' := [(.ref 46)]) inferInstance rfl rfl (fun hb => ?_) (fun hb => ?_)
    · have hq := hq.1 hb
      refine ev_seq 2 (ip' := 11) (loc' := [some (.ref 46), some (.int x1)]) (st' := [(.int 1), (.ref 46)]) (I1 := I1) (T1 := T1) rfl ?_
      exact s_M_comes_11 (T := T1) hq
    · have hq := hq.2 hb
      refine ev_seq 1 (ip' := 11) (loc' := [some (.ref 46), some (.int x1)]) (st' := [(.int 0), (.ref 46)]) (I1 := I1) (T1 := T1) rfl ?_
      exact s_M_comes_11 (T := T1) hq
  · exact ⟨by decide, hq⟩
/-- FeltHarnessModel.comesBy(III)I -/
def t_M_comesBy_30 (E : MEnv) (I : II) (T : TT) (Q : QQ) (y0 : Int32) : Prop := Q (.inl (some (.int y0))) I T
theorem s_M_comesBy_30 {E : MEnv} {I : II} {T : TT} {Q : QQ} {y0 : Int32} (hq : t_M_comesBy_30 E I T Q y0) : ev E 165 30 [none, none, none, none] [(.int y0)] I T Q := by
  unfold t_M_comesBy_30 at hq
  exact ev_ret rfl rfl hq
def t_M_comesBy_0 (E : MEnv) (I : II) (T : TT) (Q : QQ) (x1 : Int32) (x2 : Int32) (x3 : Int32) : Prop := (¬ x1 < 0 ∧ x1.toNatClampNeg < 6) ∧ (((((I (77 + x1.toNatClampNeg) 0) / 3) + 1) ≤ x2 → ((¬ x1 < 0 ∧ x1.toNatClampNeg < 6) ∧ (((x3 + (I (77 + x1.toNatClampNeg) 1)) ≤ (I 50 2) → (t_M_comesBy_30 E I T Q 2)) ∧ (¬ ((x3 + (I (77 + x1.toNatClampNeg) 1)) ≤ (I 50 2)) → (t_M_comesBy_30 E I T Q 1))))) ∧ (¬ ((((I (77 + x1.toNatClampNeg) 0) / 3) + 1) ≤ x2) → (Q (.inl (some (.int 0))) I T)))
theorem s_M_comesBy_0 {E : MEnv} {I : II} {T : TT} {Q : QQ} {x1 : Int32} {x2 : Int32} {x3 : Int32} (hq : t_M_comesBy_0 E I T Q x1 x2 x3) : ev E 165 0 [some (.ref 46), some (.int x1), some (.int x2), some (.int x3)] [] I T Q := by
  unfold t_M_comesBy_0 at hq
  refine ev_seq 4 (ip' := 4) (loc' := [some (.ref 46), some (.int x1), some (.int x2), some (.int x3)]) (st' := [(.int x1), (.ref 76), (.int x2)]) (I1 := I) (T1 := T) rfl ?_
  obtain ⟨hg, hq⟩ := hq
  have hr1 := hg
  refine ev_aald rfl rfl hg (RF_76 hg.2) ?_
  refine ev_seq 1 (ip' := 6) (loc' := [some (.ref 46), some (.int x1), some (.int x2), some (.int x3)]) (st' := [(.int 0), (.ref (77 + x1.toNatClampNeg)), (.int x2)]) (I1 := I) (T1 := T) rfl ?_
  refine ev_iald rfl (KF_76 hr1.2) ⟨by decide, by decide⟩ ?_
  refine ev_seq 4 (ip' := 11) (loc' := [some (.ref 46), some (.int x1), some (.int x2), some (.int x3)]) (st' := [(.int (((I (77 + x1.toNatClampNeg) 0) / 3) + 1)), (.int x2)]) (I1 := I) (T1 := T) rfl ?_
  refine ev_br (p := (((I (77 + x1.toNatClampNeg) 0) / 3) + 1) ≤ x2) (a := 14) (b := 12) (st' := []) inferInstance rfl rfl (fun hb => ?_) (fun hb => ?_)
  · have hq := hq.1 hb
    refine ev_seq 4 (ip' := 18) (loc' := [some (.ref 46), some (.int x1), some (.int x2), some (.int x3)]) (st' := [(.int x1), (.ref 76), (.int x3)]) (I1 := I) (T1 := T) rfl ?_
    obtain ⟨hg, hq⟩ := hq
    have hr2 := hg
    refine ev_aald rfl rfl hg (RF_76 hg.2) ?_
    refine ev_seq 1 (ip' := 20) (loc' := [some (.ref 46), some (.int x1), some (.int x2), some (.int x3)]) (st' := [(.int 1), (.ref (77 + x1.toNatClampNeg)), (.int x3)]) (I1 := I) (T1 := T) rfl ?_
    refine ev_iald rfl (KF_76 hr2.2) ⟨by decide, by decide⟩ ?_
    refine ev_seq 5 (ip' := 26) (loc' := [some (.ref 46), some (.int x1), some (.int x2), some (.int x3)]) (st' := [(.int (I 50 2)), (.int (x3 + (I (77 + x1.toNatClampNeg) 1)))]) (I1 := I) (T1 := T) rfl ?_
    refine ev_br (p := (x3 + (I (77 + x1.toNatClampNeg) 1)) ≤ (I 50 2)) (a := 29) (b := 27) (st' := []) inferInstance rfl rfl (fun hb => ?_) (fun hb => ?_)
    · have hq := hq.1 hb
      refine ev_seq 1 (ip' := 30) (loc' := [some (.ref 46), some (.int x1), some (.int x2), some (.int x3)]) (st' := [(.int 2)]) (I1 := I) (T1 := T) rfl ?_
      refine ev_fg [false, false, false, false] (loc' := [none, none, none, none]) rfl ?_
      exact s_M_comesBy_30 (T := T) hq
    · have hq := hq.2 hb
      refine ev_seq 2 (ip' := 30) (loc' := [some (.ref 46), some (.int x1), some (.int x2), some (.int x3)]) (st' := [(.int 1)]) (I1 := I) (T1 := T) rfl ?_
      refine ev_fg [false, false, false, false] (loc' := [none, none, none, none]) rfl ?_
      exact s_M_comesBy_30 (T := T) hq
  · have hq := hq.2 hb
    refine ev_seq 1 (ip' := 13) (loc' := [some (.ref 46), some (.int x1), some (.int x2), some (.int x3)]) (st' := [(.int 0)]) (I1 := I) (T1 := T) rfl ?_
    exact ev_ret rfl rfl hq
/-- FeltHarnessModel.copies([I[I)V -/
def t_M_copies_508_509_2 (E : MEnv) (I : II) (T : TT) (Q : QQ) (x2 : Int32) : Prop := (29 ≤ x2 → (Q (.inl none) I T)) ∧ (¬ (29 ≤ x2) → ((¬ x2 < 0 ∧ x2.toNatClampNeg < 29) ∧ ((¬ x2 < 0 ∧ x2.toNatClampNeg < 29) ∧ (ev E 147 2 [some (.ref 508), some (.ref 509), some (.int (x2 + 1))] [] (m_up I 509 x2.toNatClampNeg (I 508 x2.toNatClampNeg)) T Q))))
theorem s_M_copies_508_509_2 {E : MEnv} {I : II} {T : TT} {Q : QQ} {x2 : Int32} (hq : t_M_copies_508_509_2 E I T Q x2) : ev E 147 2 [some (.ref 508), some (.ref 509), some (.int x2)] [] I T Q := by
  unfold t_M_copies_508_509_2 at hq
  refine ev_seq 2 (ip' := 4) (loc' := [some (.ref 508), some (.ref 509), some (.int x2)]) (st' := [(.int 29), (.int x2)]) (I1 := I) (T1 := T) rfl ?_
  refine ev_br (p := 29 ≤ x2) (a := 13) (b := 5) (st' := []) inferInstance rfl rfl (fun hb => ?_) (fun hb => ?_)
  · have hq := hq.1 hb
    exact ev_ret rfl rfl hq
  · have hq := hq.2 hb
    refine ev_seq 4 (ip' := 9) (loc' := [some (.ref 508), some (.ref 509), some (.int x2)]) (st' := [(.int x2), (.ref 508), (.int x2), (.ref 509)]) (I1 := I) (T1 := T) rfl ?_
    obtain ⟨hg, hq⟩ := hq
    refine ev_iald rfl rfl hg ?_
    obtain ⟨hg, hq⟩ := hq
    refine ev_iast rfl rfl hg ?_
    refine ev_seq 2 (ip' := 2) (loc' := [some (.ref 508), some (.ref 509), some (.int (x2 + 1))]) (st' := []) (I1 := m_up I 509 x2.toNatClampNeg (I 508 x2.toNatClampNeg)) (T1 := T) rfl ?_
    exact hq
def t_M_copies_508_509_0 (E : MEnv) (I : II) (T : TT) (Q : QQ) : Prop := t_M_copies_508_509_2 E I T Q 0
theorem s_M_copies_508_509_0 {E : MEnv} {I : II} {T : TT} {Q : QQ} (hq : t_M_copies_508_509_0 E I T Q) : ev E 147 0 [some (.ref 508), some (.ref 509), none] [] I T Q := by
  unfold t_M_copies_508_509_0 at hq
  refine ev_seq 2 (ip' := 2) (loc' := [some (.ref 508), some (.ref 509), some (.int 0)]) (st' := []) (I1 := I) (T1 := T) rfl ?_
  exact s_M_copies_508_509_2 (T := T) hq
/-- FeltHarnessModel.copies([I[I)V -/
def t_M_copies_508_R_2 (E : MEnv) (I : II) (T : TT) (Q : QQ) (x1 : Nat) (x2 : Int32) : Prop := (29 ≤ x2 → (Q (.inl none) I T)) ∧ (¬ (29 ≤ x2) → ((¬ x2 < 0 ∧ x2.toNatClampNeg < 29) ∧ ((¬ x2 < 0 ∧ x2.toNatClampNeg < 29) ∧ (ev E 147 2 [some (.ref 508), some (.ref x1), some (.int (x2 + 1))] [] (m_up I x1 x2.toNatClampNeg (I 508 x2.toNatClampNeg)) T Q))))
theorem s_M_copies_508_R_2 {E : MEnv} {I : II} {T : TT} {Q : QQ} {x1 : Nat} {x2 : Int32} (hK_x1 : m_K x1 = (1, 29)) (hq : t_M_copies_508_R_2 E I T Q x1 x2) : ev E 147 2 [some (.ref 508), some (.ref x1), some (.int x2)] [] I T Q := by
  unfold t_M_copies_508_R_2 at hq
  refine ev_seq 2 (ip' := 4) (loc' := [some (.ref 508), some (.ref x1), some (.int x2)]) (st' := [(.int 29), (.int x2)]) (I1 := I) (T1 := T) rfl ?_
  refine ev_br (p := 29 ≤ x2) (a := 13) (b := 5) (st' := []) inferInstance rfl rfl (fun hb => ?_) (fun hb => ?_)
  · have hq := hq.1 hb
    exact ev_ret rfl rfl hq
  · have hq := hq.2 hb
    refine ev_seq 4 (ip' := 9) (loc' := [some (.ref 508), some (.ref x1), some (.int x2)]) (st' := [(.int x2), (.ref 508), (.int x2), (.ref x1)]) (I1 := I) (T1 := T) rfl ?_
    obtain ⟨hg, hq⟩ := hq
    refine ev_iald rfl rfl hg ?_
    obtain ⟨hg, hq⟩ := hq
    refine ev_iast rfl hK_x1 hg ?_
    refine ev_seq 2 (ip' := 2) (loc' := [some (.ref 508), some (.ref x1), some (.int (x2 + 1))]) (st' := []) (I1 := m_up I x1 x2.toNatClampNeg (I 508 x2.toNatClampNeg)) (T1 := T) rfl ?_
    exact hq
def t_M_copies_508_R_0 (E : MEnv) (I : II) (T : TT) (Q : QQ) (x1 : Nat) : Prop := t_M_copies_508_R_2 E I T Q x1 0
theorem s_M_copies_508_R_0 {E : MEnv} {I : II} {T : TT} {Q : QQ} {x1 : Nat} (hK_x1 : m_K x1 = (1, 29)) (hq : t_M_copies_508_R_0 E I T Q x1) : ev E 147 0 [some (.ref 508), some (.ref x1), none] [] I T Q := by
  unfold t_M_copies_508_R_0 at hq
  refine ev_seq 2 (ip' := 2) (loc' := [some (.ref 508), some (.ref x1), some (.int 0)]) (st' := []) (I1 := I) (T1 := T) rfl ?_
  exact s_M_copies_508_R_2 (T := T) hK_x1 hq
/-- FeltHarnessModel.copies([I[I)V -/
def t_M_copies_R_508_2 (E : MEnv) (I : II) (T : TT) (Q : QQ) (x0 : Nat) (x2 : Int32) : Prop := (29 ≤ x2 → (Q (.inl none) I T)) ∧ (¬ (29 ≤ x2) → ((¬ x2 < 0 ∧ x2.toNatClampNeg < 29) ∧ ((¬ x2 < 0 ∧ x2.toNatClampNeg < 29) ∧ (ev E 147 2 [some (.ref x0), some (.ref 508), some (.int (x2 + 1))] [] (m_up I 508 x2.toNatClampNeg (I x0 x2.toNatClampNeg)) T Q))))
theorem s_M_copies_R_508_2 {E : MEnv} {I : II} {T : TT} {Q : QQ} {x0 : Nat} {x2 : Int32} (hK_x0 : m_K x0 = (1, 29)) (hq : t_M_copies_R_508_2 E I T Q x0 x2) : ev E 147 2 [some (.ref x0), some (.ref 508), some (.int x2)] [] I T Q := by
  unfold t_M_copies_R_508_2 at hq
  refine ev_seq 2 (ip' := 4) (loc' := [some (.ref x0), some (.ref 508), some (.int x2)]) (st' := [(.int 29), (.int x2)]) (I1 := I) (T1 := T) rfl ?_
  refine ev_br (p := 29 ≤ x2) (a := 13) (b := 5) (st' := []) inferInstance rfl rfl (fun hb => ?_) (fun hb => ?_)
  · have hq := hq.1 hb
    exact ev_ret rfl rfl hq
  · have hq := hq.2 hb
    refine ev_seq 4 (ip' := 9) (loc' := [some (.ref x0), some (.ref 508), some (.int x2)]) (st' := [(.int x2), (.ref x0), (.int x2), (.ref 508)]) (I1 := I) (T1 := T) rfl ?_
    obtain ⟨hg, hq⟩ := hq
    refine ev_iald rfl hK_x0 hg ?_
    obtain ⟨hg, hq⟩ := hq
    refine ev_iast rfl rfl hg ?_
    refine ev_seq 2 (ip' := 2) (loc' := [some (.ref x0), some (.ref 508), some (.int (x2 + 1))]) (st' := []) (I1 := m_up I 508 x2.toNatClampNeg (I x0 x2.toNatClampNeg)) (T1 := T) rfl ?_
    exact hq
def t_M_copies_R_508_0 (E : MEnv) (I : II) (T : TT) (Q : QQ) (x0 : Nat) : Prop := t_M_copies_R_508_2 E I T Q x0 0
theorem s_M_copies_R_508_0 {E : MEnv} {I : II} {T : TT} {Q : QQ} {x0 : Nat} (hK_x0 : m_K x0 = (1, 29)) (hq : t_M_copies_R_508_0 E I T Q x0) : ev E 147 0 [some (.ref x0), some (.ref 508), none] [] I T Q := by
  unfold t_M_copies_R_508_0 at hq
  refine ev_seq 2 (ip' := 2) (loc' := [some (.ref x0), some (.ref 508), some (.int 0)]) (st' := []) (I1 := I) (T1 := T) rfl ?_
  exact s_M_copies_R_508_2 (T := T) hK_x0 hq
/-- FeltHarnessModel.count(I)I -/
def t_M_count_21 (E : MEnv) (I : II) (T : TT) (Q : QQ) (y0 : Int32) : Prop := Q (.inl (some (.int y0))) I T
theorem s_M_count_21 {E : MEnv} {I : II} {T : TT} {Q : QQ} {y0 : Int32} (hq : t_M_count_21 E I T Q y0) : ev E 335 21 [none, none] [(.int y0)] I T Q := by
  unfold t_M_count_21 at hq
  exact ev_ret rfl rfl hq
def t_M_count_0 (E : MEnv) (I : II) (T : TT) (Q : QQ) (x1 : Int32) : Prop := (x1 = 0 → (t_M_count_21 E (m_up I 46 0 0) T Q ((m_up I 46 0 0) 46 36))) ∧ (¬ (x1 = 0) → ((x1 = 1 → (t_M_count_21 E (m_up I 46 0 0) T Q ((m_up I 46 0 0) 46 1))) ∧ (¬ (x1 = 1) → ((x1 = 2 → (t_M_count_21 E (m_up I 46 0 0) T Q ((m_up I 46 0 0) 46 34))) ∧ (¬ (x1 = 2) → (t_M_count_21 E (m_up I 46 0 0) T Q (-1)))))))
theorem s_M_count_0 {E : MEnv} {I : II} {T : TT} {Q : QQ} {x1 : Int32} (hq : t_M_count_0 E I T Q x1) : ev E 335 0 [some (.ref 46), some (.int x1)] [] I T Q := by
  unfold t_M_count_0 at hq
  refine ev_seq 4 (ip' := 4) (loc' := [some (.ref 46), some (.int x1)]) (st' := [(.int x1)]) (I1 := m_up I 46 0 0) (T1 := T) rfl ?_
  refine ev_br (p := x1 = 0) (a := 5) (b := 8) (st' := []) inferInstance rfl rfl (fun hb => ?_) (fun hb => ?_)
  · have hq := hq.1 hb
    refine ev_seq 3 (ip' := 21) (loc' := [some (.ref 46), some (.int x1)]) (st' := [(.int ((m_up I 46 0 0) 46 36))]) (I1 := m_up I 46 0 0) (T1 := T) rfl ?_
    refine ev_fg [false, false] (loc' := [none, none]) rfl ?_
    exact s_M_count_21 (T := T) hq
  · have hq := hq.2 hb
    refine ev_seq 2 (ip' := 10) (loc' := [some (.ref 46), some (.int x1)]) (st' := [(.int 1), (.int x1)]) (I1 := m_up I 46 0 0) (T1 := T) rfl ?_
    refine ev_br (p := x1 = 1) (a := 11) (b := 14) (st' := []) inferInstance rfl rfl (fun hb => ?_) (fun hb => ?_)
    · have hq := hq.1 hb
      refine ev_seq 3 (ip' := 21) (loc' := [some (.ref 46), some (.int x1)]) (st' := [(.int ((m_up I 46 0 0) 46 1))]) (I1 := m_up I 46 0 0) (T1 := T) rfl ?_
      refine ev_fg [false, false] (loc' := [none, none]) rfl ?_
      exact s_M_count_21 (T := T) hq
    · have hq := hq.2 hb
      refine ev_seq 2 (ip' := 16) (loc' := [some (.ref 46), some (.int x1)]) (st' := [(.int 2), (.int x1)]) (I1 := m_up I 46 0 0) (T1 := T) rfl ?_
      refine ev_br (p := x1 = 2) (a := 17) (b := 20) (st' := []) inferInstance rfl rfl (fun hb => ?_) (fun hb => ?_)
      · have hq := hq.1 hb
        refine ev_seq 3 (ip' := 21) (loc' := [some (.ref 46), some (.int x1)]) (st' := [(.int ((m_up I 46 0 0) 46 34))]) (I1 := m_up I 46 0 0) (T1 := T) rfl ?_
        refine ev_fg [false, false] (loc' := [none, none]) rfl ?_
        exact s_M_count_21 (T := T) hq
      · have hq := hq.2 hb
        refine ev_seq 1 (ip' := 21) (loc' := [some (.ref 46), some (.int x1)]) (st' := [(.int (-1))]) (I1 := m_up I 46 0 0) (T1 := T) rfl ?_
        refine ev_fg [false, false] (loc' := [none, none]) rfl ?_
        exact s_M_count_21 (T := T) hq
/-- FeltHarnessModel.does([I[I)Z -/
def t_M_does_508_R_0 (E : MEnv) (I : II) (T : TT) (Q : QQ) (x2 : Nat) : Prop := ev E 149 (m_tsw 0 4 [8, 28, 35, 44, 59] 64 (I x2 0)) [some (.ref 46), some (.ref 508), some (.ref x2), some (.int (I x2 1))] [] I T Q
theorem s_M_does_508_R_0 {E : MEnv} {I : II} {T : TT} {Q : QQ} {x2 : Nat} (hK_x2 : m_K x2 = (1, 4)) (hq : t_M_does_508_R_0 E I T Q x2) : ev E 149 0 [some (.ref 46), some (.ref 508), some (.ref x2), none] [] I T Q := by
  unfold t_M_does_508_R_0 at hq
  refine ev_seq 2 (ip' := 2) (loc' := [some (.ref 46), some (.ref 508), some (.ref x2), none]) (st' := [(.int 1), (.ref x2)]) (I1 := I) (T1 := T) rfl ?_
  refine ev_iald rfl hK_x2 ⟨by decide, by decide⟩ ?_
  refine ev_seq 3 (ip' := 6) (loc' := [some (.ref 46), some (.ref 508), some (.ref x2), some (.int (I x2 1))]) (st' := [(.int 0), (.ref x2)]) (I1 := I) (T1 := T) rfl ?_
  refine ev_iald rfl hK_x2 ⟨by decide, by decide⟩ ?_
  refine ev_jp rfl rfl ?_
  exact hq
def t_M_does_508_R_8 (E : MEnv) (I : II) (T : TT) (Q : QQ) (x2 : Nat) (x3 : Int32) : Prop := ev E 150 0 [some (.ref 46), some (.ref 508), some (.int x3), some (.int (I x2 2))] [] I T (KI (fun v1 I1 T1 => (v1 = 0 → (Q (.inl (some (.int 0))) I1 T1)) ∧ (¬ (v1 = 0) → ((¬ (0 + x3) < 0 ∧ (0 + x3).toNatClampNeg < 29) ∧ (Q (.inl (some (.int 1))) (m_up I1 508 (0 + x3).toNatClampNeg (I1 x2 2)) T1)))) (fun x I1 T1 => Q (.inr x) I1 T1))
theorem s_M_does_508_R_8 {E : MEnv} {I : II} {T : TT} {Q : QQ} {x2 : Nat} {x3 : Int32} (hK_x2 : m_K x2 = (1, 4)) (hq : t_M_does_508_R_8 E I T Q x2 x3) : ev E 149 8 [some (.ref 46), some (.ref 508), some (.ref x2), some (.int x3)] [] I T Q := by
  unfold t_M_does_508_R_8 at hq
  refine ev_seq 5 (ip' := 13) (loc' := [some (.ref 46), some (.ref 508), some (.ref x2), some (.int x3)]) (st' := [(.int 2), (.ref x2), (.int x3), (.ref 508), (.ref 46)]) (I1 := I) (T1 := T) rfl ?_
  refine ev_iald rfl hK_x2 ⟨by decide, by decide⟩ ?_
  refine ev_callI rfl rfl rfl (fun v1 I1 T1 hq => ?_) (fun x I1 T1 hq => ?_) hq
  · refine ev_br (p := v1 = 0) (a := 16) (b := 18) (st' := []) inferInstance rfl rfl (fun hb => ?_) (fun hb => ?_)
    · have hq := hq.1 hb
      refine ev_seq 1 (ip' := 17) (loc' := [some (.ref 46), some (.ref 508), some (.ref x2), some (.int x3)]) (st' := [(.int 0)]) (I1 := I1) (T1 := T1) rfl ?_
      exact ev_ret rfl rfl hq
    · have hq := hq.2 hb
      refine ev_seq 6 (ip' := 24) (loc' := [some (.ref 46), some (.ref 508), some (.ref x2), some (.int x3)]) (st' := [(.int 2), (.ref x2), (.int (0 + x3)), (.ref 508)]) (I1 := I1) (T1 := T1) rfl ?_
      refine ev_iald rfl hK_x2 ⟨by decide, by decide⟩ ?_
      obtain ⟨hg, hq⟩ := hq
      refine ev_iast rfl rfl hg ?_
      refine ev_seq 1 (ip' := 27) (loc' := [some (.ref 46), some (.ref 508), some (.ref x2), some (.int x3)]) (st' := [(.int 1)]) (I1 := m_up I1 508 (0 + x3).toNatClampNeg (I1 x2 2)) (T1 := T1) rfl ?_
      exact ev_ret rfl rfl hq
  · exact ⟨by decide, hq⟩
def t_M_does_508_R_28 (E : MEnv) (I : II) (T : TT) (Q : QQ) (x3 : Int32) : Prop := ev E 153 0 [some (.ref 508), some (.int (0 + x3)), some (.int (-1))] [] I T (KI (fun v1 I1 T1 => (v1 = 0 ∨ v1 = 1) ∧ Q (.inl (some (.int v1))) I1 T1) (fun _ _ _ => False))
theorem s_M_does_508_R_28 {E : MEnv} {I : II} {T : TT} {Q : QQ} {x3 : Int32} (hq : t_M_does_508_R_28 E I T Q x3) : ev E 149 28 [none, some (.ref 508), none, some (.int x3)] [] I T Q := by
  unfold t_M_does_508_R_28 at hq
  refine ev_seq 5 (ip' := 33) (loc' := [none, some (.ref 508), none, some (.int x3)]) (st' := [(.int (-1)), (.int (0 + x3)), (.ref 508)]) (I1 := I) (T1 := T) rfl ?_
  refine ev_callI rfl rfl rfl (fun v1 I1 T1 hq => ?_) (fun x I1 T1 hq => ?_) hq
  · exact ev_retb rfl rfl hq.1 hq.2
  · exact hq.elim
def t_M_does_508_R_35 (E : MEnv) (I : II) (T : TT) (Q : QQ) (x2 : Nat) (x3 : Int32) : Prop := ev E 153 0 [some (.ref 508), some (.int (8 + x3)), some (.int (I x2 2))] [] I T (KI (fun v1 I1 T1 => (v1 = 0 ∨ v1 = 1) ∧ Q (.inl (some (.int v1))) I1 T1) (fun _ _ _ => False))
theorem s_M_does_508_R_35 {E : MEnv} {I : II} {T : TT} {Q : QQ} {x2 : Nat} {x3 : Int32} (hK_x2 : m_K x2 = (1, 4)) (hq : t_M_does_508_R_35 E I T Q x2 x3) : ev E 149 35 [none, some (.ref 508), some (.ref x2), some (.int x3)] [] I T Q := by
  unfold t_M_does_508_R_35 at hq
  refine ev_seq 6 (ip' := 41) (loc' := [none, some (.ref 508), some (.ref x2), some (.int x3)]) (st' := [(.int 2), (.ref x2), (.int (8 + x3)), (.ref 508)]) (I1 := I) (T1 := T) rfl ?_
  refine ev_iald rfl hK_x2 ⟨by decide, by decide⟩ ?_
  refine ev_callI rfl rfl rfl (fun v1 I1 T1 hq => ?_) (fun x I1 T1 hq => ?_) hq
  · exact ev_retb rfl rfl hq.1 hq.2
  · exact hq.elim
def t_M_does_508_R_44 (E : MEnv) (I : II) (T : TT) (Q : QQ) : Prop := ev E 154 0 [some (.ref 46), some (.ref 508)] [] I T (KI (fun v1 I1 T1 => (v1 = 0 → (Q (.inl (some (.int 0))) I1 T1)) ∧ (¬ (v1 = 0) → (ev E 155 0 [some (.ref 46), some (.ref 508), some (.int (I1 508 25)), none, none, none, none] [] I1 T1 (KI (fun v2 I2 T2 => Q (.inl (some (.int 1))) I2 T2) (fun x I1 T1 => Q (.inr x) I1 T1))))) (fun x I1 T1 => Q (.inr x) I1 T1))
theorem s_M_does_508_R_44 {E : MEnv} {I : II} {T : TT} {Q : QQ} (hq : t_M_does_508_R_44 E I T Q) : ev E 149 44 [some (.ref 46), some (.ref 508), none, none] [] I T Q := by
  unfold t_M_does_508_R_44 at hq
  refine ev_seq 2 (ip' := 46) (loc' := [some (.ref 46), some (.ref 508), none, none]) (st' := [(.ref 508), (.ref 46)]) (I1 := I) (T1 := T) rfl ?_
  refine ev_callI rfl rfl rfl (fun v1 I1 T1 hq => ?_) (fun x I1 T1 hq => ?_) hq
  · refine ev_br (p := v1 = 0) (a := 48) (b := 50) (st' := []) inferInstance rfl rfl (fun hb => ?_) (fun hb => ?_)
    · have hq := hq.1 hb
      refine ev_seq 1 (ip' := 49) (loc' := [some (.ref 46), some (.ref 508), none, none]) (st' := [(.int 0)]) (I1 := I1) (T1 := T1) rfl ?_
      exact ev_ret rfl rfl hq
    · have hq := hq.2 hb
      refine ev_seq 5 (ip' := 55) (loc' := [some (.ref 46), some (.ref 508), none, none]) (st' := [(.int (I1 508 25)), (.ref 508), (.ref 46)]) (I1 := I1) (T1 := T1) rfl ?_
      refine ev_callI rfl rfl rfl (fun v2 I2 T2 hq => ?_) (fun x I1 T1 hq => ?_) hq
      · refine ev_seq 2 (ip' := 58) (loc' := [some (.ref 46), some (.ref 508), none, none]) (st' := [(.int 1)]) (I1 := I2) (T1 := T2) rfl ?_
        exact ev_ret rfl rfl hq
      · exact ⟨by decide, hq⟩
  · exact ⟨by decide, hq⟩
def t_M_does_508_R_59 (E : MEnv) (I : II) (T : TT) (Q : QQ) : Prop := ev E 153 0 [some (.ref 508), some (.int 25), some (.int 0)] [] I T (KI (fun v1 I1 T1 => (v1 = 0 ∨ v1 = 1) ∧ Q (.inl (some (.int v1))) I1 T1) (fun _ _ _ => False))
theorem s_M_does_508_R_59 {E : MEnv} {I : II} {T : TT} {Q : QQ} (hq : t_M_does_508_R_59 E I T Q) : ev E 149 59 [none, some (.ref 508), none, none] [] I T Q := by
  unfold t_M_does_508_R_59 at hq
  refine ev_seq 3 (ip' := 62) (loc' := [none, some (.ref 508), none, none]) (st' := [(.int 0), (.int 25), (.ref 508)]) (I1 := I) (T1 := T) rfl ?_
  refine ev_callI rfl rfl rfl (fun v1 I1 T1 hq => ?_) (fun x I1 T1 hq => ?_) hq
  · exact ev_retb rfl rfl hq.1 hq.2
  · exact hq.elim
def t_M_does_508_R_64 (E : MEnv) (I : II) (T : TT) (Q : QQ) : Prop := ((I 508 24) < 900 → (ev E 168 0 [some (.ref 46), some (.ref 508), none] [] I T (KV (fun I1 T1 => Q (.inl (some (.int 1))) I1 T1) (fun x I1 T1 => Q (.inr x) I1 T1)))) ∧ (¬ ((I 508 24) < 900) → (Q (.inl (some (.int 0))) I T))
theorem s_M_does_508_R_64 {E : MEnv} {I : II} {T : TT} {Q : QQ} (hq : t_M_does_508_R_64 E I T Q) : ev E 149 64 [some (.ref 46), some (.ref 508), none, none] [] I T Q := by
  unfold t_M_does_508_R_64 at hq
  refine ev_seq 4 (ip' := 68) (loc' := [some (.ref 46), some (.ref 508), none, none]) (st' := [(.int 900), (.int (I 508 24))]) (I1 := I) (T1 := T) rfl ?_
  refine ev_br (p := (I 508 24) < 900) (a := 71) (b := 69) (st' := []) inferInstance rfl rfl (fun hb => ?_) (fun hb => ?_)
  · have hq := hq.1 hb
    refine ev_seq 2 (ip' := 73) (loc' := [some (.ref 46), some (.ref 508), none, none]) (st' := [(.ref 508), (.ref 46)]) (I1 := I) (T1 := T) rfl ?_
    refine ev_callV rfl rfl rfl (fun I1 T1 hq => ?_) (fun x I1 T1 hq => ?_) hq
    · refine ev_seq 1 (ip' := 75) (loc' := [some (.ref 46), some (.ref 508), none, none]) (st' := [(.int 1)]) (I1 := I1) (T1 := T1) rfl ?_
      exact ev_ret rfl rfl hq
    · exact ⟨by decide, hq⟩
  · have hq := hq.2 hb
    refine ev_seq 1 (ip' := 70) (loc' := [some (.ref 46), some (.ref 508), none, none]) (st' := [(.int 0)]) (I1 := I) (T1 := T) rfl ?_
    exact ev_ret rfl rfl hq
/-- FeltHarnessModel.draw(I)I -/
def t_M_draw_0 (E : MEnv) (I : II) (T : TT) (Q : QQ) (x1 : Int32) : Prop := x1 ≠ 0 ∧ (Q (.inl (some (.int (((((m_up I 46 47 (((I 46 47) * 1103515245) + 12345)) 46 47) >>> ((16 : Int32) &&& 31)) &&& 32767) - ((((m_up I 46 47 (((I 46 47) * 1103515245) + 12345)) 46 47) >>> ((16 : Int32) &&& 31)) &&& 32767) / x1 * x1)))) (m_up I 46 47 (((I 46 47) * 1103515245) + 12345)) T)
theorem s_M_draw_0 {E : MEnv} {I : II} {T : TT} {Q : QQ} {x1 : Int32} (hq : t_M_draw_0 E I T Q x1) : ev E 320 0 [some (.ref 46), some (.int x1)] [] I T Q := by
  unfold t_M_draw_0 at hq
  refine ev_seq 15 (ip' := 15) (loc' := [some (.ref 46), some (.int x1)]) (st' := [(.int x1), (.int ((((m_up I 46 47 (((I 46 47) * 1103515245) + 12345)) 46 47) >>> ((16 : Int32) &&& 31)) &&& 32767))]) (I1 := m_up I 46 47 (((I 46 47) * 1103515245) + 12345)) (T1 := T) rfl ?_
  obtain ⟨hg, hq⟩ := hq
  refine ev_pr rfl (ev_irem hg) ?_
  exact ev_ret rfl rfl hq
/-- FeltHarnessModel.driven([II)I -/
def t_M_driven_508_125 (E : MEnv) (I : II) (T : TT) (Q : QQ) (x4 : Int32) (y1 : Int32) (y2 : Int32) (y3 : Int32) : Prop := (¬ y1 < 0 ∧ y1.toNatClampNeg < 29) ∧ (Q (.inl (some (.int x4))) (m_up I 508 y1.toNatClampNeg (y2 + y3)) T)
theorem s_M_driven_508_125 {E : MEnv} {I : II} {T : TT} {Q : QQ} {x4 : Int32} {y1 : Int32} {y2 : Int32} {y3 : Int32} (hq : t_M_driven_508_125 E I T Q x4 y1 y2 y3) : ev E 155 125 [none, none, none, none, some (.int x4), none, none] [(.int y3), (.int y2), (.int y1), (.ref 508)] I T Q := by
  unfold t_M_driven_508_125 at hq
  refine ev_seq 1 (ip' := 126) (loc' := [none, none, none, none, some (.int x4), none, none]) (st' := [(.int (y2 + y3)), (.int y1), (.ref 508)]) (I1 := I) (T1 := T) rfl ?_
  obtain ⟨hg, hq⟩ := hq
  refine ev_iast rfl rfl hg ?_
  refine ev_seq 1 (ip' := 128) (loc' := [none, none, none, none, some (.int x4), none, none]) (st' := [(.int x4)]) (I1 := m_up I 508 y1.toNatClampNeg (y2 + y3)) (T1 := T) rfl ?_
  exact ev_ret rfl rfl hq
def t_M_driven_508_110 (E : MEnv) (I : II) (T : TT) (Q : QQ) (x4 : Int32) (y1 : Int32) : Prop := (¬ y1 < 0 ∧ y1.toNatClampNeg < 29) ∧ ((¬ y1 < 0 ∧ y1.toNatClampNeg < 29) ∧ ((x4 = 2 → (t_M_driven_508_125 E (m_up I 508 y1.toNatClampNeg ((I 508 y1.toNatClampNeg) + 1)) T Q x4 25 ((m_up I 508 y1.toNatClampNeg ((I 508 y1.toNatClampNeg) + 1)) 508 25) 1)) ∧ (¬ (x4 = 2) → (t_M_driven_508_125 E (m_up I 508 y1.toNatClampNeg ((I 508 y1.toNatClampNeg) + 1)) T Q x4 25 ((m_up I 508 y1.toNatClampNeg ((I 508 y1.toNatClampNeg) + 1)) 508 25) 0))))
theorem s_M_driven_508_110 {E : MEnv} {I : II} {T : TT} {Q : QQ} {x4 : Int32} {y1 : Int32} (hq : t_M_driven_508_110 E I T Q x4 y1) : ev E 155 110 [none, some (.ref 508), none, none, some (.int x4), none, none] [(.int y1), (.ref 508)] I T Q := by
  unfold t_M_driven_508_110 at hq
  refine ev_seq 1 (ip' := 111) (loc' := [none, some (.ref 508), none, none, some (.int x4), none, none]) (st' := [(.int y1), (.ref 508), (.int y1), (.ref 508)]) (I1 := I) (T1 := T) rfl ?_
  obtain ⟨hg, hq⟩ := hq
  refine ev_iald rfl rfl hg ?_
  refine ev_seq 2 (ip' := 114) (loc' := [none, some (.ref 508), none, none, some (.int x4), none, none]) (st' := [(.int ((I 508 y1.toNatClampNeg) + 1)), (.int y1), (.ref 508)]) (I1 := I) (T1 := T) rfl ?_
  obtain ⟨hg, hq⟩ := hq
  refine ev_iast rfl rfl hg ?_
  refine ev_seq 6 (ip' := 121) (loc' := [none, some (.ref 508), none, none, some (.int x4), none, none]) (st' := [(.int 2), (.int x4), (.int ((m_up I 508 y1.toNatClampNeg ((I 508 y1.toNatClampNeg) + 1)) 508 25)), (.int 25), (.ref 508)]) (I1 := m_up I 508 y1.toNatClampNeg ((I 508 y1.toNatClampNeg) + 1)) (T1 := T) rfl ?_
  refine ev_br (p := x4 = 2) (a := 122) (b := 124) (st' := [(.int ((m_up I 508 y1.toNatClampNeg ((I 508 y1.toNatClampNeg) + 1)) 508 25)), (.int 25), (.ref 508)]) inferInstance rfl rfl (fun hb => ?_) (fun hb => ?_)
  · have hq := hq.1 hb
    refine ev_seq 2 (ip' := 125) (loc' := [none, some (.ref 508), none, none, some (.int x4), none, none]) (st' := [(.int 1), (.int ((m_up I 508 y1.toNatClampNeg ((I 508 y1.toNatClampNeg) + 1)) 508 25)), (.int 25), (.ref 508)]) (I1 := m_up I 508 y1.toNatClampNeg ((I 508 y1.toNatClampNeg) + 1)) (T1 := T) rfl ?_
    refine ev_fg [true, false, true, true, true, true, true] (loc' := [none, none, none, none, some (.int x4), none, none]) rfl ?_
    exact s_M_driven_508_125 (T := T) hq
  · have hq := hq.2 hb
    refine ev_seq 1 (ip' := 125) (loc' := [none, some (.ref 508), none, none, some (.int x4), none, none]) (st' := [(.int 0), (.int ((m_up I 508 y1.toNatClampNeg ((I 508 y1.toNatClampNeg) + 1)) 508 25)), (.int 25), (.ref 508)]) (I1 := m_up I 508 y1.toNatClampNeg ((I 508 y1.toNatClampNeg) + 1)) (T1 := T) rfl ?_
    refine ev_fg [true, false, true, true, true, true, true] (loc' := [none, none, none, none, some (.int x4), none, none]) rfl ?_
    exact s_M_driven_508_125 (T := T) hq
def t_M_driven_508_97 (E : MEnv) (I : II) (T : TT) (Q : QQ) (x2 : Int32) (x3 : Int32) (x4 : Int32) (x5 : Int32) (x6 : Int32) : Prop := ev E 155 19 [some (.ref 46), some (.ref 508), some (.int x2), some (.int x3), some (.int x4), some (.int x5), some (.int (x6 + 1))] [] I T Q
theorem s_M_driven_508_97 {E : MEnv} {I : II} {T : TT} {Q : QQ} {x2 : Int32} {x3 : Int32} {x4 : Int32} {x5 : Int32} {x6 : Int32} (hq : t_M_driven_508_97 E I T Q x2 x3 x4 x5 x6) : ev E 155 97 [some (.ref 46), some (.ref 508), some (.int x2), some (.int x3), some (.int x4), some (.int x5), some (.int x6)] [] I T Q := by
  unfold t_M_driven_508_97 at hq
  refine ev_seq 2 (ip' := 19) (loc' := [some (.ref 46), some (.ref 508), some (.int x2), some (.int x3), some (.int x4), some (.int x5), some (.int (x6 + 1))]) (st' := []) (I1 := I) (T1 := T) rfl ?_
  exact hq
def t_M_driven_508_96 (E : MEnv) (I : II) (T : TT) (Q : QQ) (x2 : Int32) (x3 : Int32) (x4 : Int32) (x5 : Int32) (x6 : Int32) (y1 : Int32) (y2 : Int32) : Prop := (¬ y1 < 0 ∧ y1.toNatClampNeg < 29) ∧ (t_M_driven_508_97 E (m_up I 508 y1.toNatClampNeg y2) T Q x2 x3 x4 x5 x6)
theorem s_M_driven_508_96 {E : MEnv} {I : II} {T : TT} {Q : QQ} {x2 : Int32} {x3 : Int32} {x4 : Int32} {x5 : Int32} {x6 : Int32} {y1 : Int32} {y2 : Int32} (hq : t_M_driven_508_96 E I T Q x2 x3 x4 x5 x6 y1 y2) : ev E 155 96 [some (.ref 46), some (.ref 508), some (.int x2), some (.int x3), some (.int x4), some (.int x5), some (.int x6)] [(.int y2), (.int y1), (.ref 508)] I T Q := by
  unfold t_M_driven_508_96 at hq
  obtain ⟨hg, hq⟩ := hq
  refine ev_iast rfl rfl hg ?_
  exact s_M_driven_508_97 (T := T) hq
def t_M_driven_508_60 (E : MEnv) (I : II) (T : TT) (Q : QQ) (x2 : Int32) (x3 : Int32) (x4 : Int32) (x5 : Int32) (x6 : Int32) (y1 : Int32) (y2 : Int32) : Prop := ev E 167 0 [some (.ref 508), some (.int y1), some (.int y2)] [] I T (KV (fun I1 T1 => (x4 = 1 → ((¬ (8 + x6) < 0 ∧ (8 + x6).toNatClampNeg < 29) ∧ (ev E 163 0 [some (.int 0), some (.int ((I1 508 (8 + x6).toNatClampNeg) - 3))] [] I1 T1 (KI (fun v2 I2 T2 => (¬ (8 + x6) < 0 ∧ (8 + x6).toNatClampNeg < 29) ∧ ((¬ (8 + x6) < 0 ∧ (8 + x6).toNatClampNeg < 29) ∧ ((((m_up I2 508 (8 + x6).toNatClampNeg v2) 508 (8 + x6).toNatClampNeg) = 0 → (t_M_driven_508_96 E (m_up I2 508 (8 + x6).toNatClampNeg v2) T2 Q x2 x3 x4 x5 x6 (0 + x6) (-1))) ∧ (¬ (((m_up I2 508 (8 + x6).toNatClampNeg v2) 508 (8 + x6).toNatClampNeg) = 0) → ((¬ (0 + x6) < 0 ∧ (0 + x6).toNatClampNeg < 29) ∧ (t_M_driven_508_96 E (m_up I2 508 (8 + x6).toNatClampNeg v2) T2 Q x2 x3 x4 x5 x6 (0 + x6) ((m_up I2 508 (8 + x6).toNatClampNeg v2) 508 (0 + x6).toNatClampNeg))))))) (fun _ _ _ => False))))) ∧ (¬ (x4 = 1) → (t_M_driven_508_97 E I1 T1 Q x2 x3 x4 x5 x6))) (fun _ _ _ => False))
theorem s_M_driven_508_60 {E : MEnv} {I : II} {T : TT} {Q : QQ} {x2 : Int32} {x3 : Int32} {x4 : Int32} {x5 : Int32} {x6 : Int32} {y1 : Int32} {y2 : Int32} (hq : t_M_driven_508_60 E I T Q x2 x3 x4 x5 x6 y1 y2) : ev E 155 60 [some (.ref 46), some (.ref 508), some (.int x2), some (.int x3), some (.int x4), some (.int x5), some (.int x6)] [(.int y2), (.int y1), (.ref 508)] I T Q := by
  unfold t_M_driven_508_60 at hq
  refine ev_callV rfl rfl rfl (fun I1 T1 hq => ?_) (fun x I1 T1 hq => ?_) hq
  · refine ev_seq 2 (ip' := 63) (loc' := [some (.ref 46), some (.ref 508), some (.int x2), some (.int x3), some (.int x4), some (.int x5), some (.int x6)]) (st' := [(.int 1), (.int x4)]) (I1 := I1) (T1 := T1) rfl ?_
    refine ev_br (p := x4 = 1) (a := 65) (b := 64) (st' := []) inferInstance rfl rfl (fun hb => ?_) (fun hb => ?_)
    · have hq := hq.1 hb
      refine ev_seq 9 (ip' := 74) (loc' := [some (.ref 46), some (.ref 508), some (.int x2), some (.int x3), some (.int x4), some (.int x5), some (.int x6)]) (st' := [(.int (8 + x6)), (.ref 508), (.int 0), (.int (8 + x6)), (.ref 508)]) (I1 := I1) (T1 := T1) rfl ?_
      obtain ⟨hg, hq⟩ := hq
      refine ev_iald rfl rfl hg ?_
      refine ev_seq 2 (ip' := 77) (loc' := [some (.ref 46), some (.ref 508), some (.int x2), some (.int x3), some (.int x4), some (.int x5), some (.int x6)]) (st' := [(.int ((I1 508 (8 + x6).toNatClampNeg) - 3)), (.int 0), (.int (8 + x6)), (.ref 508)]) (I1 := I1) (T1 := T1) rfl ?_
      refine ev_callI rfl rfl rfl (fun v2 I2 T2 hq => ?_) (fun x I1 T1 hq => ?_) hq
      · obtain ⟨hg, hq⟩ := hq
        refine ev_iast rfl rfl hg ?_
        refine ev_seq 8 (ip' := 87) (loc' := [some (.ref 46), some (.ref 508), some (.int x2), some (.int x3), some (.int x4), some (.int x5), some (.int x6)]) (st' := [(.int (8 + x6)), (.ref 508), (.int (0 + x6)), (.ref 508)]) (I1 := m_up I2 508 (8 + x6).toNatClampNeg v2) (T1 := T2) rfl ?_
        obtain ⟨hg, hq⟩ := hq
        refine ev_iald rfl rfl hg ?_
        refine ev_br (p := ((m_up I2 508 (8 + x6).toNatClampNeg v2) 508 (8 + x6).toNatClampNeg) = 0) (a := 89) (b := 91) (st' := [(.int (0 + x6)), (.ref 508)]) inferInstance rfl rfl (fun hb => ?_) (fun hb => ?_)
        · have hq := hq.1 hb
          refine ev_seq 2 (ip' := 96) (loc' := [some (.ref 46), some (.ref 508), some (.int x2), some (.int x3), some (.int x4), some (.int x5), some (.int x6)]) (st' := [(.int (-1)), (.int (0 + x6)), (.ref 508)]) (I1 := m_up I2 508 (8 + x6).toNatClampNeg v2) (T1 := T2) rfl ?_
          exact s_M_driven_508_96 (T := T2) hq
        · have hq := hq.2 hb
          refine ev_seq 4 (ip' := 95) (loc' := [some (.ref 46), some (.ref 508), some (.int x2), some (.int x3), some (.int x4), some (.int x5), some (.int x6)]) (st' := [(.int (0 + x6)), (.ref 508), (.int (0 + x6)), (.ref 508)]) (I1 := m_up I2 508 (8 + x6).toNatClampNeg v2) (T1 := T2) rfl ?_
          obtain ⟨hg, hq⟩ := hq
          refine ev_iald rfl rfl hg ?_
          exact s_M_driven_508_96 (T := T2) hq
      · exact hq.elim
    · have hq := hq.2 hb
      refine ev_seq 1 (ip' := 97) (loc' := [some (.ref 46), some (.ref 508), some (.int x2), some (.int x3), some (.int x4), some (.int x5), some (.int x6)]) (st' := []) (I1 := I1) (T1 := T1) rfl ?_
      exact s_M_driven_508_97 (T := T1) hq
  · exact hq.elim
def t_M_driven_508_19 (E : MEnv) (I : II) (T : TT) (Q : QQ) (x2 : Int32) (x3 : Int32) (x4 : Int32) (x5 : Int32) (x6 : Int32) : Prop := ((I 50 0) ≤ x6 → ((x4 = 0 → (t_M_driven_508_110 E I T Q x4 28)) ∧ (¬ (x4 = 0) → ((x4 = 1 → (t_M_driven_508_110 E I T Q x4 27)) ∧ (¬ (x4 = 1) → (t_M_driven_508_110 E I T Q x4 26)))))) ∧ (¬ ((I 50 0) ≤ x6) → (ev E 166 0 [some (.int x5), some (.int x6)] [] I T (KI (fun v1 I1 T1 => (v1 = 0 → (t_M_driven_508_97 E I1 T1 Q x2 x3 x4 x5 x6)) ∧ (¬ (v1 = 0) → ((x4 = 0 → (t_M_driven_508_60 E I1 T1 Q x2 x3 x4 x5 x6 x6 2)) ∧ (¬ (x4 = 0) → ((x4 = 1 → (t_M_driven_508_60 E I1 T1 Q x2 x3 x4 x5 x6 x6 5)) ∧ (¬ (x4 = 1) → ((¬ x2 < 0 ∧ x2.toNatClampNeg < 6) ∧ (x3 ≠ 0 ∧ ((¬ x2 < 0 ∧ x2.toNatClampNeg < 6) ∧ (t_M_driven_508_60 E I1 T1 Q x2 x3 x4 x5 x6 x6 ((((I1 (77 + x2.toNatClampNeg) 0) / x3) + 1) + ((I1 (77 + x2.toNatClampNeg) 1) / 3)))))))))))) (fun _ _ _ => False))))
theorem s_M_driven_508_19 {E : MEnv} {I : II} {T : TT} {Q : QQ} {x2 : Int32} {x3 : Int32} {x4 : Int32} {x5 : Int32} {x6 : Int32} (hq : t_M_driven_508_19 E I T Q x2 x3 x4 x5 x6) : ev E 155 19 [some (.ref 46), some (.ref 508), some (.int x2), some (.int x3), some (.int x4), some (.int x5), some (.int x6)] [] I T Q := by
  unfold t_M_driven_508_19 at hq
  refine ev_seq 5 (ip' := 24) (loc' := [some (.ref 46), some (.ref 508), some (.int x2), some (.int x3), some (.int x4), some (.int x5), some (.int x6)]) (st' := [(.int (I 50 0)), (.int x6)]) (I1 := I) (T1 := T) rfl ?_
  refine ev_br (p := (I 50 0) ≤ x6) (a := 99) (b := 25) (st' := []) inferInstance rfl rfl (fun hb => ?_) (fun hb => ?_)
  · have hq := hq.1 hb
    refine ev_seq 2 (ip' := 101) (loc' := [some (.ref 46), some (.ref 508), some (.int x2), some (.int x3), some (.int x4), some (.int x5), some (.int x6)]) (st' := [(.int x4), (.ref 508)]) (I1 := I) (T1 := T) rfl ?_
    refine ev_br (p := x4 = 0) (a := 102) (b := 104) (st' := [(.ref 508)]) inferInstance rfl rfl (fun hb => ?_) (fun hb => ?_)
    · have hq := hq.1 hb
      refine ev_seq 2 (ip' := 110) (loc' := [some (.ref 46), some (.ref 508), some (.int x2), some (.int x3), some (.int x4), some (.int x5), some (.int x6)]) (st' := [(.int 28), (.ref 508)]) (I1 := I) (T1 := T) rfl ?_
      refine ev_fg [false, true, false, false, true, false, false] (loc' := [none, some (.ref 508), none, none, some (.int x4), none, none]) rfl ?_
      exact s_M_driven_508_110 (T := T) hq
    · have hq := hq.2 hb
      refine ev_seq 2 (ip' := 106) (loc' := [some (.ref 46), some (.ref 508), some (.int x2), some (.int x3), some (.int x4), some (.int x5), some (.int x6)]) (st' := [(.int 1), (.int x4), (.ref 508)]) (I1 := I) (T1 := T) rfl ?_
      refine ev_br (p := x4 = 1) (a := 107) (b := 109) (st' := [(.ref 508)]) inferInstance rfl rfl (fun hb => ?_) (fun hb => ?_)
      · have hq := hq.1 hb
        refine ev_seq 2 (ip' := 110) (loc' := [some (.ref 46), some (.ref 508), some (.int x2), some (.int x3), some (.int x4), some (.int x5), some (.int x6)]) (st' := [(.int 27), (.ref 508)]) (I1 := I) (T1 := T) rfl ?_
        refine ev_fg [false, true, false, false, true, false, false] (loc' := [none, some (.ref 508), none, none, some (.int x4), none, none]) rfl ?_
        exact s_M_driven_508_110 (T := T) hq
      · have hq := hq.2 hb
        refine ev_seq 1 (ip' := 110) (loc' := [some (.ref 46), some (.ref 508), some (.int x2), some (.int x3), some (.int x4), some (.int x5), some (.int x6)]) (st' := [(.int 26), (.ref 508)]) (I1 := I) (T1 := T) rfl ?_
        refine ev_fg [false, true, false, false, true, false, false] (loc' := [none, some (.ref 508), none, none, some (.int x4), none, none]) rfl ?_
        exact s_M_driven_508_110 (T := T) hq
  · have hq := hq.2 hb
    refine ev_seq 2 (ip' := 27) (loc' := [some (.ref 46), some (.ref 508), some (.int x2), some (.int x3), some (.int x4), some (.int x5), some (.int x6)]) (st' := [(.int x6), (.int x5)]) (I1 := I) (T1 := T) rfl ?_
    refine ev_callI rfl rfl rfl (fun v1 I1 T1 hq => ?_) (fun x I1 T1 hq => ?_) hq
    · refine ev_br (p := v1 = 0) (a := 29) (b := 30) (st' := []) inferInstance rfl rfl (fun hb => ?_) (fun hb => ?_)
      · have hq := hq.1 hb
        refine ev_seq 1 (ip' := 97) (loc' := [some (.ref 46), some (.ref 508), some (.int x2), some (.int x3), some (.int x4), some (.int x5), some (.int x6)]) (st' := []) (I1 := I1) (T1 := T1) rfl ?_
        exact s_M_driven_508_97 (T := T1) hq
      · have hq := hq.2 hb
        refine ev_seq 3 (ip' := 33) (loc' := [some (.ref 46), some (.ref 508), some (.int x2), some (.int x3), some (.int x4), some (.int x5), some (.int x6)]) (st' := [(.int x4), (.int x6), (.ref 508)]) (I1 := I1) (T1 := T1) rfl ?_
        refine ev_br (p := x4 = 0) (a := 34) (b := 36) (st' := [(.int x6), (.ref 508)]) inferInstance rfl rfl (fun hb => ?_) (fun hb => ?_)
        · have hq := hq.1 hb
          refine ev_seq 2 (ip' := 60) (loc' := [some (.ref 46), some (.ref 508), some (.int x2), some (.int x3), some (.int x4), some (.int x5), some (.int x6)]) (st' := [(.int 2), (.int x6), (.ref 508)]) (I1 := I1) (T1 := T1) rfl ?_
          exact s_M_driven_508_60 (T := T1) hq
        · have hq := hq.2 hb
          refine ev_seq 2 (ip' := 38) (loc' := [some (.ref 46), some (.ref 508), some (.int x2), some (.int x3), some (.int x4), some (.int x5), some (.int x6)]) (st' := [(.int 1), (.int x4), (.int x6), (.ref 508)]) (I1 := I1) (T1 := T1) rfl ?_
          refine ev_br (p := x4 = 1) (a := 39) (b := 41) (st' := [(.int x6), (.ref 508)]) inferInstance rfl rfl (fun hb => ?_) (fun hb => ?_)
          · have hq := hq.1 hb
            refine ev_seq 2 (ip' := 60) (loc' := [some (.ref 46), some (.ref 508), some (.int x2), some (.int x3), some (.int x4), some (.int x5), some (.int x6)]) (st' := [(.int 5), (.int x6), (.ref 508)]) (I1 := I1) (T1 := T1) rfl ?_
            exact s_M_driven_508_60 (T := T1) hq
          · have hq := hq.2 hb
            refine ev_seq 3 (ip' := 44) (loc' := [some (.ref 46), some (.ref 508), some (.int x2), some (.int x3), some (.int x4), some (.int x5), some (.int x6)]) (st' := [(.int x2), (.ref 76), (.int x6), (.ref 508)]) (I1 := I1) (T1 := T1) rfl ?_
            obtain ⟨hg, hq⟩ := hq
            have hr2 := hg
            refine ev_aald rfl rfl hg (RF_76 hg.2) ?_
            refine ev_seq 1 (ip' := 46) (loc' := [some (.ref 46), some (.ref 508), some (.int x2), some (.int x3), some (.int x4), some (.int x5), some (.int x6)]) (st' := [(.int 0), (.ref (77 + x2.toNatClampNeg)), (.int x6), (.ref 508)]) (I1 := I1) (T1 := T1) rfl ?_
            refine ev_iald rfl (KF_76 hr2.2) ⟨by decide, by decide⟩ ?_
            refine ev_seq 1 (ip' := 48) (loc' := [some (.ref 46), some (.ref 508), some (.int x2), some (.int x3), some (.int x4), some (.int x5), some (.int x6)]) (st' := [(.int x3), (.int (I1 (77 + x2.toNatClampNeg) 0)), (.int x6), (.ref 508)]) (I1 := I1) (T1 := T1) rfl ?_
            obtain ⟨hg, hq⟩ := hq
            refine ev_pr rfl (ev_idiv hg) ?_
            refine ev_seq 5 (ip' := 54) (loc' := [some (.ref 46), some (.ref 508), some (.int x2), some (.int x3), some (.int x4), some (.int x5), some (.int x6)]) (st' := [(.int x2), (.ref 76), (.int (((I1 (77 + x2.toNatClampNeg) 0) / x3) + 1)), (.int x6), (.ref 508)]) (I1 := I1) (T1 := T1) rfl ?_
            obtain ⟨hg, hq⟩ := hq
            have hr3 := hg
            refine ev_aald rfl rfl hg (RF_76 hg.2) ?_
            refine ev_seq 1 (ip' := 56) (loc' := [some (.ref 46), some (.ref 508), some (.int x2), some (.int x3), some (.int x4), some (.int x5), some (.int x6)]) (st' := [(.int 1), (.ref (77 + x2.toNatClampNeg)), (.int (((I1 (77 + x2.toNatClampNeg) 0) / x3) + 1)), (.int x6), (.ref 508)]) (I1 := I1) (T1 := T1) rfl ?_
            refine ev_iald rfl (KF_76 hr3.2) ⟨by decide, by decide⟩ ?_
            refine ev_seq 3 (ip' := 60) (loc' := [some (.ref 46), some (.ref 508), some (.int x2), some (.int x3), some (.int x4), some (.int x5), some (.int x6)]) (st' := [(.int ((((I1 (77 + x2.toNatClampNeg) 0) / x3) + 1) + ((I1 (77 + x2.toNatClampNeg) 1) / 3))), (.int x6), (.ref 508)]) (I1 := I1) (T1 := T1) rfl ?_
            exact s_M_driven_508_60 (T := T1) hq
    · exact hq.elim
def t_M_driven_508_0 (E : MEnv) (I : II) (T : TT) (Q : QQ) (x2 : Int32) : Prop := ev E 156 0 [some (.ref 46), some (.ref 508), some (.int 1), none, none, none, none] [] I T (KI (fun v1 I1 T1 => ev E 164 0 [some (.ref 46), some (.ref 508), none] [] I1 T1 (KI (fun v2 I2 T2 => ev E 165 0 [some (.ref 46), some (.int x2), some (.int v1), some (.int v2)] [] I2 T2 (KI (fun v3 I3 T3 => ev E 152 0 [some (.ref 46), some (.ref 508), none, none] [] I3 T3 (KI (fun v4 I4 T4 => t_M_driven_508_19 E I4 T4 Q x2 v1 v3 v4 0) (fun x I1 T1 => Q (.inr x) I1 T1))) (fun x I1 T1 => Q (.inr x) I1 T1))) (fun x I1 T1 => Q (.inr x) I1 T1))) (fun x I1 T1 => Q (.inr x) I1 T1))
theorem s_M_driven_508_0 {E : MEnv} {I : II} {T : TT} {Q : QQ} {x2 : Int32} (hq : t_M_driven_508_0 E I T Q x2) : ev E 155 0 [some (.ref 46), some (.ref 508), some (.int x2), none, none, none, none] [] I T Q := by
  unfold t_M_driven_508_0 at hq
  refine ev_seq 3 (ip' := 3) (loc' := [some (.ref 46), some (.ref 508), some (.int x2), none, none, none, none]) (st' := [(.int 1), (.ref 508), (.ref 46)]) (I1 := I) (T1 := T) rfl ?_
  refine ev_callI rfl rfl rfl (fun v1 I1 T1 hq => ?_) (fun x I1 T1 hq => ?_) hq
  · refine ev_seq 6 (ip' := 10) (loc' := [some (.ref 46), some (.ref 508), some (.int x2), some (.int v1), none, none, none]) (st' := [(.ref 508), (.ref 46), (.int v1), (.int x2), (.ref 46)]) (I1 := I1) (T1 := T1) rfl ?_
    refine ev_callI rfl rfl rfl (fun v2 I2 T2 hq => ?_) (fun x I1 T1 hq => ?_) hq
    · refine ev_callI rfl rfl rfl (fun v3 I3 T3 hq => ?_) (fun x I1 T1 hq => ?_) hq
      · refine ev_seq 3 (ip' := 15) (loc' := [some (.ref 46), some (.ref 508), some (.int x2), some (.int v1), some (.int v3), none, none]) (st' := [(.ref 508), (.ref 46)]) (I1 := I3) (T1 := T3) rfl ?_
        refine ev_callI rfl rfl rfl (fun v4 I4 T4 hq => ?_) (fun x I1 T1 hq => ?_) hq
        · refine ev_seq 3 (ip' := 19) (loc' := [some (.ref 46), some (.ref 508), some (.int x2), some (.int v1), some (.int v3), some (.int v4), some (.int 0)]) (st' := []) (I1 := I4) (T1 := T4) rfl ?_
          exact s_M_driven_508_19 (T := T4) hq
        · exact ⟨by decide, hq⟩
      · exact ⟨by decide, hq⟩
    · exact ⟨by decide, hq⟩
  · exact ⟨by decide, hq⟩
/-- FeltHarnessModel.driven([II)I -/
def t_M_driven_509_125 (E : MEnv) (I : II) (T : TT) (Q : QQ) (x4 : Int32) (y1 : Int32) (y2 : Int32) (y3 : Int32) : Prop := (¬ y1 < 0 ∧ y1.toNatClampNeg < 29) ∧ (Q (.inl (some (.int x4))) (m_up I 509 y1.toNatClampNeg (y2 + y3)) T)
theorem s_M_driven_509_125 {E : MEnv} {I : II} {T : TT} {Q : QQ} {x4 : Int32} {y1 : Int32} {y2 : Int32} {y3 : Int32} (hq : t_M_driven_509_125 E I T Q x4 y1 y2 y3) : ev E 155 125 [none, none, none, none, some (.int x4), none, none] [(.int y3), (.int y2), (.int y1), (.ref 509)] I T Q := by
  unfold t_M_driven_509_125 at hq
  refine ev_seq 1 (ip' := 126) (loc' := [none, none, none, none, some (.int x4), none, none]) (st' := [(.int (y2 + y3)), (.int y1), (.ref 509)]) (I1 := I) (T1 := T) rfl ?_
  obtain ⟨hg, hq⟩ := hq
  refine ev_iast rfl rfl hg ?_
  refine ev_seq 1 (ip' := 128) (loc' := [none, none, none, none, some (.int x4), none, none]) (st' := [(.int x4)]) (I1 := m_up I 509 y1.toNatClampNeg (y2 + y3)) (T1 := T) rfl ?_
  exact ev_ret rfl rfl hq
def t_M_driven_509_110 (E : MEnv) (I : II) (T : TT) (Q : QQ) (x4 : Int32) (y1 : Int32) : Prop := (¬ y1 < 0 ∧ y1.toNatClampNeg < 29) ∧ ((¬ y1 < 0 ∧ y1.toNatClampNeg < 29) ∧ ((x4 = 2 → (t_M_driven_509_125 E (m_up I 509 y1.toNatClampNeg ((I 509 y1.toNatClampNeg) + 1)) T Q x4 25 ((m_up I 509 y1.toNatClampNeg ((I 509 y1.toNatClampNeg) + 1)) 509 25) 1)) ∧ (¬ (x4 = 2) → (t_M_driven_509_125 E (m_up I 509 y1.toNatClampNeg ((I 509 y1.toNatClampNeg) + 1)) T Q x4 25 ((m_up I 509 y1.toNatClampNeg ((I 509 y1.toNatClampNeg) + 1)) 509 25) 0))))
theorem s_M_driven_509_110 {E : MEnv} {I : II} {T : TT} {Q : QQ} {x4 : Int32} {y1 : Int32} (hq : t_M_driven_509_110 E I T Q x4 y1) : ev E 155 110 [none, some (.ref 509), none, none, some (.int x4), none, none] [(.int y1), (.ref 509)] I T Q := by
  unfold t_M_driven_509_110 at hq
  refine ev_seq 1 (ip' := 111) (loc' := [none, some (.ref 509), none, none, some (.int x4), none, none]) (st' := [(.int y1), (.ref 509), (.int y1), (.ref 509)]) (I1 := I) (T1 := T) rfl ?_
  obtain ⟨hg, hq⟩ := hq
  refine ev_iald rfl rfl hg ?_
  refine ev_seq 2 (ip' := 114) (loc' := [none, some (.ref 509), none, none, some (.int x4), none, none]) (st' := [(.int ((I 509 y1.toNatClampNeg) + 1)), (.int y1), (.ref 509)]) (I1 := I) (T1 := T) rfl ?_
  obtain ⟨hg, hq⟩ := hq
  refine ev_iast rfl rfl hg ?_
  refine ev_seq 6 (ip' := 121) (loc' := [none, some (.ref 509), none, none, some (.int x4), none, none]) (st' := [(.int 2), (.int x4), (.int ((m_up I 509 y1.toNatClampNeg ((I 509 y1.toNatClampNeg) + 1)) 509 25)), (.int 25), (.ref 509)]) (I1 := m_up I 509 y1.toNatClampNeg ((I 509 y1.toNatClampNeg) + 1)) (T1 := T) rfl ?_
  refine ev_br (p := x4 = 2) (a := 122) (b := 124) (st' := [(.int ((m_up I 509 y1.toNatClampNeg ((I 509 y1.toNatClampNeg) + 1)) 509 25)), (.int 25), (.ref 509)]) inferInstance rfl rfl (fun hb => ?_) (fun hb => ?_)
  · have hq := hq.1 hb
    refine ev_seq 2 (ip' := 125) (loc' := [none, some (.ref 509), none, none, some (.int x4), none, none]) (st' := [(.int 1), (.int ((m_up I 509 y1.toNatClampNeg ((I 509 y1.toNatClampNeg) + 1)) 509 25)), (.int 25), (.ref 509)]) (I1 := m_up I 509 y1.toNatClampNeg ((I 509 y1.toNatClampNeg) + 1)) (T1 := T) rfl ?_
    refine ev_fg [true, false, true, true, true, true, true] (loc' := [none, none, none, none, some (.int x4), none, none]) rfl ?_
    exact s_M_driven_509_125 (T := T) hq
  · have hq := hq.2 hb
    refine ev_seq 1 (ip' := 125) (loc' := [none, some (.ref 509), none, none, some (.int x4), none, none]) (st' := [(.int 0), (.int ((m_up I 509 y1.toNatClampNeg ((I 509 y1.toNatClampNeg) + 1)) 509 25)), (.int 25), (.ref 509)]) (I1 := m_up I 509 y1.toNatClampNeg ((I 509 y1.toNatClampNeg) + 1)) (T1 := T) rfl ?_
    refine ev_fg [true, false, true, true, true, true, true] (loc' := [none, none, none, none, some (.int x4), none, none]) rfl ?_
    exact s_M_driven_509_125 (T := T) hq
def t_M_driven_509_97 (E : MEnv) (I : II) (T : TT) (Q : QQ) (x2 : Int32) (x3 : Int32) (x4 : Int32) (x5 : Int32) (x6 : Int32) : Prop := ev E 155 19 [some (.ref 46), some (.ref 509), some (.int x2), some (.int x3), some (.int x4), some (.int x5), some (.int (x6 + 1))] [] I T Q
theorem s_M_driven_509_97 {E : MEnv} {I : II} {T : TT} {Q : QQ} {x2 : Int32} {x3 : Int32} {x4 : Int32} {x5 : Int32} {x6 : Int32} (hq : t_M_driven_509_97 E I T Q x2 x3 x4 x5 x6) : ev E 155 97 [some (.ref 46), some (.ref 509), some (.int x2), some (.int x3), some (.int x4), some (.int x5), some (.int x6)] [] I T Q := by
  unfold t_M_driven_509_97 at hq
  refine ev_seq 2 (ip' := 19) (loc' := [some (.ref 46), some (.ref 509), some (.int x2), some (.int x3), some (.int x4), some (.int x5), some (.int (x6 + 1))]) (st' := []) (I1 := I) (T1 := T) rfl ?_
  exact hq
def t_M_driven_509_96 (E : MEnv) (I : II) (T : TT) (Q : QQ) (x2 : Int32) (x3 : Int32) (x4 : Int32) (x5 : Int32) (x6 : Int32) (y1 : Int32) (y2 : Int32) : Prop := (¬ y1 < 0 ∧ y1.toNatClampNeg < 29) ∧ (t_M_driven_509_97 E (m_up I 509 y1.toNatClampNeg y2) T Q x2 x3 x4 x5 x6)
theorem s_M_driven_509_96 {E : MEnv} {I : II} {T : TT} {Q : QQ} {x2 : Int32} {x3 : Int32} {x4 : Int32} {x5 : Int32} {x6 : Int32} {y1 : Int32} {y2 : Int32} (hq : t_M_driven_509_96 E I T Q x2 x3 x4 x5 x6 y1 y2) : ev E 155 96 [some (.ref 46), some (.ref 509), some (.int x2), some (.int x3), some (.int x4), some (.int x5), some (.int x6)] [(.int y2), (.int y1), (.ref 509)] I T Q := by
  unfold t_M_driven_509_96 at hq
  obtain ⟨hg, hq⟩ := hq
  refine ev_iast rfl rfl hg ?_
  exact s_M_driven_509_97 (T := T) hq
def t_M_driven_509_60 (E : MEnv) (I : II) (T : TT) (Q : QQ) (x2 : Int32) (x3 : Int32) (x4 : Int32) (x5 : Int32) (x6 : Int32) (y1 : Int32) (y2 : Int32) : Prop := ev E 167 0 [some (.ref 509), some (.int y1), some (.int y2)] [] I T (KV (fun I1 T1 => (x4 = 1 → ((¬ (8 + x6) < 0 ∧ (8 + x6).toNatClampNeg < 29) ∧ (ev E 163 0 [some (.int 0), some (.int ((I1 509 (8 + x6).toNatClampNeg) - 3))] [] I1 T1 (KI (fun v2 I2 T2 => (¬ (8 + x6) < 0 ∧ (8 + x6).toNatClampNeg < 29) ∧ ((¬ (8 + x6) < 0 ∧ (8 + x6).toNatClampNeg < 29) ∧ ((((m_up I2 509 (8 + x6).toNatClampNeg v2) 509 (8 + x6).toNatClampNeg) = 0 → (t_M_driven_509_96 E (m_up I2 509 (8 + x6).toNatClampNeg v2) T2 Q x2 x3 x4 x5 x6 (0 + x6) (-1))) ∧ (¬ (((m_up I2 509 (8 + x6).toNatClampNeg v2) 509 (8 + x6).toNatClampNeg) = 0) → ((¬ (0 + x6) < 0 ∧ (0 + x6).toNatClampNeg < 29) ∧ (t_M_driven_509_96 E (m_up I2 509 (8 + x6).toNatClampNeg v2) T2 Q x2 x3 x4 x5 x6 (0 + x6) ((m_up I2 509 (8 + x6).toNatClampNeg v2) 509 (0 + x6).toNatClampNeg))))))) (fun _ _ _ => False))))) ∧ (¬ (x4 = 1) → (t_M_driven_509_97 E I1 T1 Q x2 x3 x4 x5 x6))) (fun _ _ _ => False))
theorem s_M_driven_509_60 {E : MEnv} {I : II} {T : TT} {Q : QQ} {x2 : Int32} {x3 : Int32} {x4 : Int32} {x5 : Int32} {x6 : Int32} {y1 : Int32} {y2 : Int32} (hq : t_M_driven_509_60 E I T Q x2 x3 x4 x5 x6 y1 y2) : ev E 155 60 [some (.ref 46), some (.ref 509), some (.int x2), some (.int x3), some (.int x4), some (.int x5), some (.int x6)] [(.int y2), (.int y1), (.ref 509)] I T Q := by
  unfold t_M_driven_509_60 at hq
  refine ev_callV rfl rfl rfl (fun I1 T1 hq => ?_) (fun x I1 T1 hq => ?_) hq
  · refine ev_seq 2 (ip' := 63) (loc' := [some (.ref 46), some (.ref 509), some (.int x2), some (.int x3), some (.int x4), some (.int x5), some (.int x6)]) (st' := [(.int 1), (.int x4)]) (I1 := I1) (T1 := T1) rfl ?_
    refine ev_br (p := x4 = 1) (a := 65) (b := 64) (st' := []) inferInstance rfl rfl (fun hb => ?_) (fun hb => ?_)
    · have hq := hq.1 hb
      refine ev_seq 9 (ip' := 74) (loc' := [some (.ref 46), some (.ref 509), some (.int x2), some (.int x3), some (.int x4), some (.int x5), some (.int x6)]) (st' := [(.int (8 + x6)), (.ref 509), (.int 0), (.int (8 + x6)), (.ref 509)]) (I1 := I1) (T1 := T1) rfl ?_
      obtain ⟨hg, hq⟩ := hq
      refine ev_iald rfl rfl hg ?_
      refine ev_seq 2 (ip' := 77) (loc' := [some (.ref 46), some (.ref 509), some (.int x2), some (.int x3), some (.int x4), some (.int x5), some (.int x6)]) (st' := [(.int ((I1 509 (8 + x6).toNatClampNeg) - 3)), (.int 0), (.int (8 + x6)), (.ref 509)]) (I1 := I1) (T1 := T1) rfl ?_
      refine ev_callI rfl rfl rfl (fun v2 I2 T2 hq => ?_) (fun x I1 T1 hq => ?_) hq
      · obtain ⟨hg, hq⟩ := hq
        refine ev_iast rfl rfl hg ?_
        refine ev_seq 8 (ip' := 87) (loc' := [some (.ref 46), some (.ref 509), some (.int x2), some (.int x3), some (.int x4), some (.int x5), some (.int x6)]) (st' := [(.int (8 + x6)), (.ref 509), (.int (0 + x6)), (.ref 509)]) (I1 := m_up I2 509 (8 + x6).toNatClampNeg v2) (T1 := T2) rfl ?_
        obtain ⟨hg, hq⟩ := hq
        refine ev_iald rfl rfl hg ?_
        refine ev_br (p := ((m_up I2 509 (8 + x6).toNatClampNeg v2) 509 (8 + x6).toNatClampNeg) = 0) (a := 89) (b := 91) (st' := [(.int (0 + x6)), (.ref 509)]) inferInstance rfl rfl (fun hb => ?_) (fun hb => ?_)
        · have hq := hq.1 hb
          refine ev_seq 2 (ip' := 96) (loc' := [some (.ref 46), some (.ref 509), some (.int x2), some (.int x3), some (.int x4), some (.int x5), some (.int x6)]) (st' := [(.int (-1)), (.int (0 + x6)), (.ref 509)]) (I1 := m_up I2 509 (8 + x6).toNatClampNeg v2) (T1 := T2) rfl ?_
          exact s_M_driven_509_96 (T := T2) hq
        · have hq := hq.2 hb
          refine ev_seq 4 (ip' := 95) (loc' := [some (.ref 46), some (.ref 509), some (.int x2), some (.int x3), some (.int x4), some (.int x5), some (.int x6)]) (st' := [(.int (0 + x6)), (.ref 509), (.int (0 + x6)), (.ref 509)]) (I1 := m_up I2 509 (8 + x6).toNatClampNeg v2) (T1 := T2) rfl ?_
          obtain ⟨hg, hq⟩ := hq
          refine ev_iald rfl rfl hg ?_
          exact s_M_driven_509_96 (T := T2) hq
      · exact hq.elim
    · have hq := hq.2 hb
      refine ev_seq 1 (ip' := 97) (loc' := [some (.ref 46), some (.ref 509), some (.int x2), some (.int x3), some (.int x4), some (.int x5), some (.int x6)]) (st' := []) (I1 := I1) (T1 := T1) rfl ?_
      exact s_M_driven_509_97 (T := T1) hq
  · exact hq.elim
def t_M_driven_509_19 (E : MEnv) (I : II) (T : TT) (Q : QQ) (x2 : Int32) (x3 : Int32) (x4 : Int32) (x5 : Int32) (x6 : Int32) : Prop := ((I 50 0) ≤ x6 → ((x4 = 0 → (t_M_driven_509_110 E I T Q x4 28)) ∧ (¬ (x4 = 0) → ((x4 = 1 → (t_M_driven_509_110 E I T Q x4 27)) ∧ (¬ (x4 = 1) → (t_M_driven_509_110 E I T Q x4 26)))))) ∧ (¬ ((I 50 0) ≤ x6) → (ev E 166 0 [some (.int x5), some (.int x6)] [] I T (KI (fun v1 I1 T1 => (v1 = 0 → (t_M_driven_509_97 E I1 T1 Q x2 x3 x4 x5 x6)) ∧ (¬ (v1 = 0) → ((x4 = 0 → (t_M_driven_509_60 E I1 T1 Q x2 x3 x4 x5 x6 x6 2)) ∧ (¬ (x4 = 0) → ((x4 = 1 → (t_M_driven_509_60 E I1 T1 Q x2 x3 x4 x5 x6 x6 5)) ∧ (¬ (x4 = 1) → ((¬ x2 < 0 ∧ x2.toNatClampNeg < 6) ∧ (x3 ≠ 0 ∧ ((¬ x2 < 0 ∧ x2.toNatClampNeg < 6) ∧ (t_M_driven_509_60 E I1 T1 Q x2 x3 x4 x5 x6 x6 ((((I1 (77 + x2.toNatClampNeg) 0) / x3) + 1) + ((I1 (77 + x2.toNatClampNeg) 1) / 3)))))))))))) (fun _ _ _ => False))))
theorem s_M_driven_509_19 {E : MEnv} {I : II} {T : TT} {Q : QQ} {x2 : Int32} {x3 : Int32} {x4 : Int32} {x5 : Int32} {x6 : Int32} (hq : t_M_driven_509_19 E I T Q x2 x3 x4 x5 x6) : ev E 155 19 [some (.ref 46), some (.ref 509), some (.int x2), some (.int x3), some (.int x4), some (.int x5), some (.int x6)] [] I T Q := by
  unfold t_M_driven_509_19 at hq
  refine ev_seq 5 (ip' := 24) (loc' := [some (.ref 46), some (.ref 509), some (.int x2), some (.int x3), some (.int x4), some (.int x5), some (.int x6)]) (st' := [(.int (I 50 0)), (.int x6)]) (I1 := I) (T1 := T) rfl ?_
  refine ev_br (p := (I 50 0) ≤ x6) (a := 99) (b := 25) (st' := []) inferInstance rfl rfl (fun hb => ?_) (fun hb => ?_)
  · have hq := hq.1 hb
    refine ev_seq 2 (ip' := 101) (loc' := [some (.ref 46), some (.ref 509), some (.int x2), some (.int x3), some (.int x4), some (.int x5), some (.int x6)]) (st' := [(.int x4), (.ref 509)]) (I1 := I) (T1 := T) rfl ?_
    refine ev_br (p := x4 = 0) (a := 102) (b := 104) (st' := [(.ref 509)]) inferInstance rfl rfl (fun hb => ?_) (fun hb => ?_)
    · have hq := hq.1 hb
      refine ev_seq 2 (ip' := 110) (loc' := [some (.ref 46), some (.ref 509), some (.int x2), some (.int x3), some (.int x4), some (.int x5), some (.int x6)]) (st' := [(.int 28), (.ref 509)]) (I1 := I) (T1 := T) rfl ?_
      refine ev_fg [false, true, false, false, true, false, false] (loc' := [none, some (.ref 509), none, none, some (.int x4), none, none]) rfl ?_
      exact s_M_driven_509_110 (T := T) hq
    · have hq := hq.2 hb
      refine ev_seq 2 (ip' := 106) (loc' := [some (.ref 46), some (.ref 509), some (.int x2), some (.int x3), some (.int x4), some (.int x5), some (.int x6)]) (st' := [(.int 1), (.int x4), (.ref 509)]) (I1 := I) (T1 := T) rfl ?_
      refine ev_br (p := x4 = 1) (a := 107) (b := 109) (st' := [(.ref 509)]) inferInstance rfl rfl (fun hb => ?_) (fun hb => ?_)
      · have hq := hq.1 hb
        refine ev_seq 2 (ip' := 110) (loc' := [some (.ref 46), some (.ref 509), some (.int x2), some (.int x3), some (.int x4), some (.int x5), some (.int x6)]) (st' := [(.int 27), (.ref 509)]) (I1 := I) (T1 := T) rfl ?_
        refine ev_fg [false, true, false, false, true, false, false] (loc' := [none, some (.ref 509), none, none, some (.int x4), none, none]) rfl ?_
        exact s_M_driven_509_110 (T := T) hq
      · have hq := hq.2 hb
        refine ev_seq 1 (ip' := 110) (loc' := [some (.ref 46), some (.ref 509), some (.int x2), some (.int x3), some (.int x4), some (.int x5), some (.int x6)]) (st' := [(.int 26), (.ref 509)]) (I1 := I) (T1 := T) rfl ?_
        refine ev_fg [false, true, false, false, true, false, false] (loc' := [none, some (.ref 509), none, none, some (.int x4), none, none]) rfl ?_
        exact s_M_driven_509_110 (T := T) hq
  · have hq := hq.2 hb
    refine ev_seq 2 (ip' := 27) (loc' := [some (.ref 46), some (.ref 509), some (.int x2), some (.int x3), some (.int x4), some (.int x5), some (.int x6)]) (st' := [(.int x6), (.int x5)]) (I1 := I) (T1 := T) rfl ?_
    refine ev_callI rfl rfl rfl (fun v1 I1 T1 hq => ?_) (fun x I1 T1 hq => ?_) hq
    · refine ev_br (p := v1 = 0) (a := 29) (b := 30) (st' := []) inferInstance rfl rfl (fun hb => ?_) (fun hb => ?_)
      · have hq := hq.1 hb
        refine ev_seq 1 (ip' := 97) (loc' := [some (.ref 46), some (.ref 509), some (.int x2), some (.int x3), some (.int x4), some (.int x5), some (.int x6)]) (st' := []) (I1 := I1) (T1 := T1) rfl ?_
        exact s_M_driven_509_97 (T := T1) hq
      · have hq := hq.2 hb
        refine ev_seq 3 (ip' := 33) (loc' := [some (.ref 46), some (.ref 509), some (.int x2), some (.int x3), some (.int x4), some (.int x5), some (.int x6)]) (st' := [(.int x4), (.int x6), (.ref 509)]) (I1 := I1) (T1 := T1) rfl ?_
        refine ev_br (p := x4 = 0) (a := 34) (b := 36) (st' := [(.int x6), (.ref 509)]) inferInstance rfl rfl (fun hb => ?_) (fun hb => ?_)
        · have hq := hq.1 hb
          refine ev_seq 2 (ip' := 60) (loc' := [some (.ref 46), some (.ref 509), some (.int x2), some (.int x3), some (.int x4), some (.int x5), some (.int x6)]) (st' := [(.int 2), (.int x6), (.ref 509)]) (I1 := I1) (T1 := T1) rfl ?_
          exact s_M_driven_509_60 (T := T1) hq
        · have hq := hq.2 hb
          refine ev_seq 2 (ip' := 38) (loc' := [some (.ref 46), some (.ref 509), some (.int x2), some (.int x3), some (.int x4), some (.int x5), some (.int x6)]) (st' := [(.int 1), (.int x4), (.int x6), (.ref 509)]) (I1 := I1) (T1 := T1) rfl ?_
          refine ev_br (p := x4 = 1) (a := 39) (b := 41) (st' := [(.int x6), (.ref 509)]) inferInstance rfl rfl (fun hb => ?_) (fun hb => ?_)
          · have hq := hq.1 hb
            refine ev_seq 2 (ip' := 60) (loc' := [some (.ref 46), some (.ref 509), some (.int x2), some (.int x3), some (.int x4), some (.int x5), some (.int x6)]) (st' := [(.int 5), (.int x6), (.ref 509)]) (I1 := I1) (T1 := T1) rfl ?_
            exact s_M_driven_509_60 (T := T1) hq
          · have hq := hq.2 hb
            refine ev_seq 3 (ip' := 44) (loc' := [some (.ref 46), some (.ref 509), some (.int x2), some (.int x3), some (.int x4), some (.int x5), some (.int x6)]) (st' := [(.int x2), (.ref 76), (.int x6), (.ref 509)]) (I1 := I1) (T1 := T1) rfl ?_
            obtain ⟨hg, hq⟩ := hq
            have hr2 := hg
            refine ev_aald rfl rfl hg (RF_76 hg.2) ?_
            refine ev_seq 1 (ip' := 46) (loc' := [some (.ref 46), some (.ref 509), some (.int x2), some (.int x3), some (.int x4), some (.int x5), some (.int x6)]) (st' := [(.int 0), (.ref (77 + x2.toNatClampNeg)), (.int x6), (.ref 509)]) (I1 := I1) (T1 := T1) rfl ?_
            refine ev_iald rfl (KF_76 hr2.2) ⟨by decide, by decide⟩ ?_
            refine ev_seq 1 (ip' := 48) (loc' := [some (.ref 46), some (.ref 509), some (.int x2), some (.int x3), some (.int x4), some (.int x5), some (.int x6)]) (st' := [(.int x3), (.int (I1 (77 + x2.toNatClampNeg) 0)), (.int x6), (.ref 509)]) (I1 := I1) (T1 := T1) rfl ?_
            obtain ⟨hg, hq⟩ := hq
            refine ev_pr rfl (ev_idiv hg) ?_
            refine ev_seq 5 (ip' := 54) (loc' := [some (.ref 46), some (.ref 509), some (.int x2), some (.int x3), some (.int x4), some (.int x5), some (.int x6)]) (st' := [(.int x2), (.ref 76), (.int (((I1 (77 + x2.toNatClampNeg) 0) / x3) + 1)), (.int x6), (.ref 509)]) (I1 := I1) (T1 := T1) rfl ?_
            obtain ⟨hg, hq⟩ := hq
            have hr3 := hg
            refine ev_aald rfl rfl hg (RF_76 hg.2) ?_
            refine ev_seq 1 (ip' := 56) (loc' := [some (.ref 46), some (.ref 509), some (.int x2), some (.int x3), some (.int x4), some (.int x5), some (.int x6)]) (st' := [(.int 1), (.ref (77 + x2.toNatClampNeg)), (.int (((I1 (77 + x2.toNatClampNeg) 0) / x3) + 1)), (.int x6), (.ref 509)]) (I1 := I1) (T1 := T1) rfl ?_
            refine ev_iald rfl (KF_76 hr3.2) ⟨by decide, by decide⟩ ?_
            refine ev_seq 3 (ip' := 60) (loc' := [some (.ref 46), some (.ref 509), some (.int x2), some (.int x3), some (.int x4), some (.int x5), some (.int x6)]) (st' := [(.int ((((I1 (77 + x2.toNatClampNeg) 0) / x3) + 1) + ((I1 (77 + x2.toNatClampNeg) 1) / 3))), (.int x6), (.ref 509)]) (I1 := I1) (T1 := T1) rfl ?_
            exact s_M_driven_509_60 (T := T1) hq
    · exact hq.elim
def t_M_driven_509_0 (E : MEnv) (I : II) (T : TT) (Q : QQ) (x2 : Int32) : Prop := ev E 156 0 [some (.ref 46), some (.ref 509), some (.int 1), none, none, none, none] [] I T (KI (fun v1 I1 T1 => ev E 164 0 [some (.ref 46), some (.ref 509), none] [] I1 T1 (KI (fun v2 I2 T2 => ev E 165 0 [some (.ref 46), some (.int x2), some (.int v1), some (.int v2)] [] I2 T2 (KI (fun v3 I3 T3 => ev E 152 0 [some (.ref 46), some (.ref 509), none, none] [] I3 T3 (KI (fun v4 I4 T4 => t_M_driven_509_19 E I4 T4 Q x2 v1 v3 v4 0) (fun x I1 T1 => Q (.inr x) I1 T1))) (fun x I1 T1 => Q (.inr x) I1 T1))) (fun x I1 T1 => Q (.inr x) I1 T1))) (fun x I1 T1 => Q (.inr x) I1 T1))
theorem s_M_driven_509_0 {E : MEnv} {I : II} {T : TT} {Q : QQ} {x2 : Int32} (hq : t_M_driven_509_0 E I T Q x2) : ev E 155 0 [some (.ref 46), some (.ref 509), some (.int x2), none, none, none, none] [] I T Q := by
  unfold t_M_driven_509_0 at hq
  refine ev_seq 3 (ip' := 3) (loc' := [some (.ref 46), some (.ref 509), some (.int x2), none, none, none, none]) (st' := [(.int 1), (.ref 509), (.ref 46)]) (I1 := I) (T1 := T) rfl ?_
  refine ev_callI rfl rfl rfl (fun v1 I1 T1 hq => ?_) (fun x I1 T1 hq => ?_) hq
  · refine ev_seq 6 (ip' := 10) (loc' := [some (.ref 46), some (.ref 509), some (.int x2), some (.int v1), none, none, none]) (st' := [(.ref 509), (.ref 46), (.int v1), (.int x2), (.ref 46)]) (I1 := I1) (T1 := T1) rfl ?_
    refine ev_callI rfl rfl rfl (fun v2 I2 T2 hq => ?_) (fun x I1 T1 hq => ?_) hq
    · refine ev_callI rfl rfl rfl (fun v3 I3 T3 hq => ?_) (fun x I1 T1 hq => ?_) hq
      · refine ev_seq 3 (ip' := 15) (loc' := [some (.ref 46), some (.ref 509), some (.int x2), some (.int v1), some (.int v3), none, none]) (st' := [(.ref 509), (.ref 46)]) (I1 := I3) (T1 := T3) rfl ?_
        refine ev_callI rfl rfl rfl (fun v4 I4 T4 hq => ?_) (fun x I1 T1 hq => ?_) hq
        · refine ev_seq 3 (ip' := 19) (loc' := [some (.ref 46), some (.ref 509), some (.int x2), some (.int v1), some (.int v3), some (.int v4), some (.int 0)]) (st' := []) (I1 := I4) (T1 := T4) rfl ?_
          exact s_M_driven_509_19 (T := T4) hq
        · exact ⟨by decide, hq⟩
      · exact ⟨by decide, hq⟩
    · exact ⟨by decide, hq⟩
  · exact ⟨by decide, hq⟩
/-- FeltHarnessModel.ends()I -/
def t_M_ends_0 (E : MEnv) (I : II) (T : TT) (Q : QQ) : Prop := Q (.inl (some (.int (((m_up I 46 3 (I 46 6)) 46 5) - 10)))) (m_up I 46 3 (I 46 6)) T
theorem s_M_ends_0 {E : MEnv} {I : II} {T : TT} {Q : QQ} (hq : t_M_ends_0 E I T Q) : ev E 75 0 [some (.ref 46)] [] I T Q := by
  unfold t_M_ends_0 at hq
  refine ev_seq 8 (ip' := 8) (loc' := [some (.ref 46)]) (st' := [(.int (((m_up I 46 3 (I 46 6)) 46 5) - 10))]) (I1 := m_up I 46 3 (I 46 6)) (T1 := T) rfl ?_
  exact ev_ret rfl rfl hq
/-- FeltHarnessModel.fault()I -/
def t_M_fault_0 (E : MEnv) (I : II) (T : TT) (Q : QQ) : Prop := Q (.inl (some (.int ((m_up I 46 0 0) 46 3)))) (m_up I 46 0 0) T
theorem s_M_fault_0 {E : MEnv} {I : II} {T : TT} {Q : QQ} (hq : t_M_fault_0 E I T Q) : ev E 175 0 [some (.ref 46)] [] I T Q := by
  unfold t_M_fault_0 at hq
  refine ev_seq 5 (ip' := 5) (loc' := [some (.ref 46)]) (st' := [(.int ((m_up I 46 0 0) 46 3))]) (I1 := m_up I 46 0 0) (T1 := T) rfl ?_
  exact ev_ret rfl rfl hq
/-- FeltHarnessModel.feed(IIIII)I -/
def t_M_feed_37 (E : MEnv) (I : II) (T : TT) (Q : QQ) (x1 : Int32) (x2 : Int32) (x3 : Int32) (x4 : Int32) (x5 : Int32) (x6 : Int32) (y0 : Int32) : Prop := (¬ (I 46 1) < 0 ∧ (I 46 1).toNatClampNeg < 600) ∧ (ev E 23 13 [some (.ref 46), some (.int x1), some (.int x2), some (.int x3), some (.int x4), some (.int x5), some (.int (x6 + 1)), none] [] (m_up (m_up I 47 (I 46 1).toNatClampNeg ((y0 >>> ((24 - (8 * (x6 - x6 / 4 * 4))) &&& 31)) &&& 255)) 46 1 (((m_up I 47 (I 46 1).toNatClampNeg ((y0 >>> ((24 - (8 * (x6 - x6 / 4 * 4))) &&& 31)) &&& 255)) 46 1) + 1)) T Q)
theorem s_M_feed_37 {E : MEnv} {I : II} {T : TT} {Q : QQ} {x1 : Int32} {x2 : Int32} {x3 : Int32} {x4 : Int32} {x5 : Int32} {x6 : Int32} {y0 : Int32} (hq : t_M_feed_37 E I T Q x1 x2 x3 x4 x5 x6 y0) : ev E 23 37 [some (.ref 46), some (.int x1), some (.int x2), some (.int x3), some (.int x4), some (.int x5), some (.int x6), none] [(.int y0)] I T Q := by
  unfold t_M_feed_37 at hq
  refine ev_seq 16 (ip' := 53) (loc' := [some (.ref 46), some (.int x1), some (.int x2), some (.int x3), some (.int x4), some (.int x5), some (.int x6), some (.int y0)]) (st' := [(.int ((y0 >>> ((24 - (8 * (x6 - x6 / 4 * 4))) &&& 31)) &&& 255)), (.int (I 46 1)), (.ref 47)]) (I1 := I) (T1 := T) rfl ?_
  obtain ⟨hg, hq⟩ := hq
  refine ev_iast rfl rfl hg ?_
  refine ev_seq 8 (ip' := 13) (loc' := [some (.ref 46), some (.int x1), some (.int x2), some (.int x3), some (.int x4), some (.int x5), some (.int (x6 + 1)), some (.int y0)]) (st' := []) (I1 := m_up (m_up I 47 (I 46 1).toNatClampNeg ((y0 >>> ((24 - (8 * (x6 - x6 / 4 * 4))) &&& 31)) &&& 255)) 46 1 (((m_up I 47 (I 46 1).toNatClampNeg ((y0 >>> ((24 - (8 * (x6 - x6 / 4 * 4))) &&& 31)) &&& 255)) 46 1) + 1)) (T1 := T) rfl ?_
  refine ev_fg [true, true, true, true, true, true, true, false] (loc' := [some (.ref 46), some (.int x1), some (.int x2), some (.int x3), some (.int x4), some (.int x5), some (.int (x6 + 1)), none]) rfl ?_
  exact hq
def t_M_feed_13 (E : MEnv) (I : II) (T : TT) (Q : QQ) (x1 : Int32) (x2 : Int32) (x3 : Int32) (x4 : Int32) (x5 : Int32) (x6 : Int32) : Prop := (20 ≤ x6 → (Q (.inl (some (.int (I 46 1)))) I T)) ∧ (¬ (20 ≤ x6) → ((4 ≤ x6 → ((8 ≤ x6 → ((12 ≤ x6 → ((16 ≤ x6 → (t_M_feed_37 E I T Q x1 x2 x3 x4 x5 x6 x5)) ∧ (¬ (16 ≤ x6) → (t_M_feed_37 E I T Q x1 x2 x3 x4 x5 x6 x4)))) ∧ (¬ (12 ≤ x6) → (t_M_feed_37 E I T Q x1 x2 x3 x4 x5 x6 x3)))) ∧ (¬ (8 ≤ x6) → (t_M_feed_37 E I T Q x1 x2 x3 x4 x5 x6 x2)))) ∧ (¬ (4 ≤ x6) → (t_M_feed_37 E I T Q x1 x2 x3 x4 x5 x6 x1))))
theorem s_M_feed_13 {E : MEnv} {I : II} {T : TT} {Q : QQ} {x1 : Int32} {x2 : Int32} {x3 : Int32} {x4 : Int32} {x5 : Int32} {x6 : Int32} (hq : t_M_feed_13 E I T Q x1 x2 x3 x4 x5 x6) : ev E 23 13 [some (.ref 46), some (.int x1), some (.int x2), some (.int x3), some (.int x4), some (.int x5), some (.int x6), none] [] I T Q := by
  unfold t_M_feed_13 at hq
  refine ev_seq 2 (ip' := 15) (loc' := [some (.ref 46), some (.int x1), some (.int x2), some (.int x3), some (.int x4), some (.int x5), some (.int x6), none]) (st' := [(.int 20), (.int x6)]) (I1 := I) (T1 := T) rfl ?_
  refine ev_br (p := 20 ≤ x6) (a := 62) (b := 16) (st' := []) inferInstance rfl rfl (fun hb => ?_) (fun hb => ?_)
  · have hq := hq.1 hb
    refine ev_seq 2 (ip' := 64) (loc' := [some (.ref 46), some (.int x1), some (.int x2), some (.int x3), some (.int x4), some (.int x5), some (.int x6), none]) (st' := [(.int (I 46 1))]) (I1 := I) (T1 := T) rfl ?_
    exact ev_ret rfl rfl hq
  · have hq := hq.2 hb
    refine ev_seq 2 (ip' := 18) (loc' := [some (.ref 46), some (.int x1), some (.int x2), some (.int x3), some (.int x4), some (.int x5), some (.int x6), none]) (st' := [(.int 4), (.int x6)]) (I1 := I) (T1 := T) rfl ?_
    refine ev_br (p := 4 ≤ x6) (a := 21) (b := 19) (st' := []) inferInstance rfl rfl (fun hb => ?_) (fun hb => ?_)
    · have hq := hq.1 hb
      refine ev_seq 2 (ip' := 23) (loc' := [some (.ref 46), some (.int x1), some (.int x2), some (.int x3), some (.int x4), some (.int x5), some (.int x6), none]) (st' := [(.int 8), (.int x6)]) (I1 := I) (T1 := T) rfl ?_
      refine ev_br (p := 8 ≤ x6) (a := 26) (b := 24) (st' := []) inferInstance rfl rfl (fun hb => ?_) (fun hb => ?_)
      · have hq := hq.1 hb
        refine ev_seq 2 (ip' := 28) (loc' := [some (.ref 46), some (.int x1), some (.int x2), some (.int x3), some (.int x4), some (.int x5), some (.int x6), none]) (st' := [(.int 12), (.int x6)]) (I1 := I) (T1 := T) rfl ?_
        refine ev_br (p := 12 ≤ x6) (a := 31) (b := 29) (st' := []) inferInstance rfl rfl (fun hb => ?_) (fun hb => ?_)
        · have hq := hq.1 hb
          refine ev_seq 2 (ip' := 33) (loc' := [some (.ref 46), some (.int x1), some (.int x2), some (.int x3), some (.int x4), some (.int x5), some (.int x6), none]) (st' := [(.int 16), (.int x6)]) (I1 := I) (T1 := T) rfl ?_
          refine ev_br (p := 16 ≤ x6) (a := 36) (b := 34) (st' := []) inferInstance rfl rfl (fun hb => ?_) (fun hb => ?_)
          · have hq := hq.1 hb
            refine ev_seq 1 (ip' := 37) (loc' := [some (.ref 46), some (.int x1), some (.int x2), some (.int x3), some (.int x4), some (.int x5), some (.int x6), none]) (st' := [(.int x5)]) (I1 := I) (T1 := T) rfl ?_
            exact s_M_feed_37 (T := T) hq
          · have hq := hq.2 hb
            refine ev_seq 2 (ip' := 37) (loc' := [some (.ref 46), some (.int x1), some (.int x2), some (.int x3), some (.int x4), some (.int x5), some (.int x6), none]) (st' := [(.int x4)]) (I1 := I) (T1 := T) rfl ?_
            exact s_M_feed_37 (T := T) hq
        · have hq := hq.2 hb
          refine ev_seq 2 (ip' := 37) (loc' := [some (.ref 46), some (.int x1), some (.int x2), some (.int x3), some (.int x4), some (.int x5), some (.int x6), none]) (st' := [(.int x3)]) (I1 := I) (T1 := T) rfl ?_
          exact s_M_feed_37 (T := T) hq
      · have hq := hq.2 hb
        refine ev_seq 2 (ip' := 37) (loc' := [some (.ref 46), some (.int x1), some (.int x2), some (.int x3), some (.int x4), some (.int x5), some (.int x6), none]) (st' := [(.int x2)]) (I1 := I) (T1 := T) rfl ?_
        exact s_M_feed_37 (T := T) hq
    · have hq := hq.2 hb
      refine ev_seq 2 (ip' := 37) (loc' := [some (.ref 46), some (.int x1), some (.int x2), some (.int x3), some (.int x4), some (.int x5), some (.int x6), none]) (st' := [(.int x1)]) (I1 := I) (T1 := T) rfl ?_
      exact s_M_feed_37 (T := T) hq
def t_M_feed_0 (E : MEnv) (I : II) (T : TT) (Q : QQ) (x1 : Int32) (x2 : Int32) (x3 : Int32) (x4 : Int32) (x5 : Int32) : Prop := ((((m_up I 46 0 0) 46 1) + 20) ≤ 600 → (t_M_feed_13 E (m_up I 46 0 0) T Q x1 x2 x3 x4 x5 0)) ∧ (¬ ((((m_up I 46 0 0) 46 1) + 20) ≤ 600) → (Q (.inl (some (.int (-1)))) (m_up I 46 0 0) T))
theorem s_M_feed_0 {E : MEnv} {I : II} {T : TT} {Q : QQ} {x1 : Int32} {x2 : Int32} {x3 : Int32} {x4 : Int32} {x5 : Int32} (hq : t_M_feed_0 E I T Q x1 x2 x3 x4 x5) : ev E 23 0 [some (.ref 46), some (.int x1), some (.int x2), some (.int x3), some (.int x4), some (.int x5), none, none] [] I T Q := by
  unfold t_M_feed_0 at hq
  refine ev_seq 8 (ip' := 8) (loc' := [some (.ref 46), some (.int x1), some (.int x2), some (.int x3), some (.int x4), some (.int x5), none, none]) (st' := [(.int 600), (.int (((m_up I 46 0 0) 46 1) + 20))]) (I1 := m_up I 46 0 0) (T1 := T) rfl ?_
  refine ev_br (p := (((m_up I 46 0 0) 46 1) + 20) ≤ 600) (a := 11) (b := 9) (st' := []) inferInstance rfl rfl (fun hb => ?_) (fun hb => ?_)
  · have hq := hq.1 hb
    refine ev_seq 2 (ip' := 13) (loc' := [some (.ref 46), some (.int x1), some (.int x2), some (.int x3), some (.int x4), some (.int x5), some (.int 0), none]) (st' := []) (I1 := m_up I 46 0 0) (T1 := T) rfl ?_
    exact s_M_feed_13 (T := T) hq
  · have hq := hq.2 hb
    refine ev_seq 1 (ip' := 10) (loc' := [some (.ref 46), some (.int x1), some (.int x2), some (.int x3), some (.int x4), some (.int x5), none, none]) (st' := [(.int (-1))]) (I1 := m_up I 46 0 0) (T1 := T) rfl ?_
    exact ev_ret rfl rfl hq
/-- FeltHarnessModel.feeling(II)I -/
def t_M_feeling_74 (E : MEnv) (I : II) (T : TT) (Q : QQ) (y0 : Int32) : Prop := Q (.inl (some (.int y0))) I T
theorem s_M_feeling_74 {E : MEnv} {I : II} {T : TT} {Q : QQ} {y0 : Int32} (hq : t_M_feeling_74 E I T Q y0) : ev E 189 74 [none, none, none] [(.int y0)] I T Q := by
  unfold t_M_feeling_74 at hq
  exact ev_ret rfl rfl hq
def t_M_feeling_28 (E : MEnv) (I : II) (T : TT) (Q : QQ) : Prop := Q (.inl (some (.int 0))) I T
theorem s_M_feeling_28 {E : MEnv} {I : II} {T : TT} {Q : QQ} (hq : t_M_feeling_28 E I T Q) : ev E 189 28 [none, none, none] [] I T Q := by
  unfold t_M_feeling_28 at hq
  refine ev_seq 1 (ip' := 29) (loc' := [none, none, none]) (st' := [(.int 0)]) (I1 := I) (T1 := T) rfl ?_
  exact ev_ret rfl rfl hq
def t_M_feeling_24 (E : MEnv) (I : II) (T : TT) (Q : QQ) (x1 : Int32) (x2 : Int32) (y1 : Int32) : Prop := ev E 58 0 [some (.ref 46), some (.int y1), some (.int 2), some (.int 1)] [] I T (KI (fun v1 I1 T1 => (v1 = 0 → ((2 ≤ x2 → ((x2 = 2 → ((¬ (0 + x1) < 0 ∧ (0 + x1).toNatClampNeg < 29) ∧ (t_M_feeling_74 E I1 T1 Q (I1 508 (0 + x1).toNatClampNeg)))) ∧ (¬ (x2 = 2) → ((x2 = 3 → ((¬ (8 + x1) < 0 ∧ (8 + x1).toNatClampNeg < 29) ∧ (t_M_feeling_74 E I1 T1 Q (I1 508 (8 + x1).toNatClampNeg)))) ∧ (¬ (x2 = 3) → ((x2 = 4 → ((¬ (16 + x1) < 0 ∧ (16 + x1).toNatClampNeg < 29) ∧ (t_M_feeling_74 E I1 T1 Q (I1 508 (16 + x1).toNatClampNeg)))) ∧ (¬ (x2 = 4) → ((¬ x1 < 0 ∧ x1.toNatClampNeg < 8) ∧ (t_M_feeling_74 E I1 T1 Q (I1 84 x1.toNatClampNeg)))))))))) ∧ (¬ (2 ≤ x2) → ((¬ x1 < 0 ∧ x1.toNatClampNeg < 8) ∧ ((¬ x2 < 0 ∧ x2.toNatClampNeg < 2) ∧ (Q (.inl (some (.int (I1 (61 + x1.toNatClampNeg) x2.toNatClampNeg)))) I1 T1)))))) ∧ (¬ (v1 = 0) → (t_M_feeling_28 E I1 T1 Q ))) (fun x I1 T1 => Q (.inr x) I1 T1))
theorem s_M_feeling_24 {E : MEnv} {I : II} {T : TT} {Q : QQ} {x1 : Int32} {x2 : Int32} {y1 : Int32} (hq : t_M_feeling_24 E I T Q x1 x2 y1) : ev E 189 24 [some (.ref 46), some (.int x1), some (.int x2)] [(.int y1), (.ref 46)] I T Q := by
  unfold t_M_feeling_24 at hq
  refine ev_seq 2 (ip' := 26) (loc' := [some (.ref 46), some (.int x1), some (.int x2)]) (st' := [(.int 1), (.int 2), (.int y1), (.ref 46)]) (I1 := I) (T1 := T) rfl ?_
  refine ev_callI rfl rfl rfl (fun v1 I1 T1 hq => ?_) (fun x I1 T1 hq => ?_) hq
  · refine ev_br (p := v1 = 0) (a := 30) (b := 28) (st' := []) inferInstance rfl rfl (fun hb => ?_) (fun hb => ?_)
    · have hq := hq.1 hb
      refine ev_seq 2 (ip' := 32) (loc' := [some (.ref 46), some (.int x1), some (.int x2)]) (st' := [(.int 2), (.int x2)]) (I1 := I1) (T1 := T1) rfl ?_
      refine ev_br (p := 2 ≤ x2) (a := 40) (b := 33) (st' := []) inferInstance rfl rfl (fun hb => ?_) (fun hb => ?_)
      · have hq := hq.1 hb
        refine ev_seq 2 (ip' := 42) (loc' := [some (.ref 46), some (.int x1), some (.int x2)]) (st' := [(.int 2), (.int x2)]) (I1 := I1) (T1 := T1) rfl ?_
        refine ev_br (p := x2 = 2) (a := 43) (b := 50) (st' := []) inferInstance rfl rfl (fun hb => ?_) (fun hb => ?_)
        · have hq := hq.1 hb
          refine ev_seq 5 (ip' := 48) (loc' := [some (.ref 46), some (.int x1), some (.int x2)]) (st' := [(.int (0 + x1)), (.ref 508)]) (I1 := I1) (T1 := T1) rfl ?_
          obtain ⟨hg, hq⟩ := hq
          refine ev_iald rfl rfl hg ?_
          refine ev_seq 1 (ip' := 74) (loc' := [some (.ref 46), some (.int x1), some (.int x2)]) (st' := [(.int (I1 508 (0 + x1).toNatClampNeg))]) (I1 := I1) (T1 := T1) rfl ?_
          refine ev_fg [false, false, false] (loc' := [none, none, none]) rfl ?_
          exact s_M_feeling_74 (T := T1) hq
        · have hq := hq.2 hb
          refine ev_seq 2 (ip' := 52) (loc' := [some (.ref 46), some (.int x1), some (.int x2)]) (st' := [(.int 3), (.int x2)]) (I1 := I1) (T1 := T1) rfl ?_
          refine ev_br (p := x2 = 3) (a := 53) (b := 60) (st' := []) inferInstance rfl rfl (fun hb => ?_) (fun hb => ?_)
          · have hq := hq.1 hb
            refine ev_seq 5 (ip' := 58) (loc' := [some (.ref 46), some (.int x1), some (.int x2)]) (st' := [(.int (8 + x1)), (.ref 508)]) (I1 := I1) (T1 := T1) rfl ?_
            obtain ⟨hg, hq⟩ := hq
            refine ev_iald rfl rfl hg ?_
            refine ev_seq 1 (ip' := 74) (loc' := [some (.ref 46), some (.int x1), some (.int x2)]) (st' := [(.int (I1 508 (8 + x1).toNatClampNeg))]) (I1 := I1) (T1 := T1) rfl ?_
            refine ev_fg [false, false, false] (loc' := [none, none, none]) rfl ?_
            exact s_M_feeling_74 (T := T1) hq
          · have hq := hq.2 hb
            refine ev_seq 2 (ip' := 62) (loc' := [some (.ref 46), some (.int x1), some (.int x2)]) (st' := [(.int 4), (.int x2)]) (I1 := I1) (T1 := T1) rfl ?_
            refine ev_br (p := x2 = 4) (a := 63) (b := 70) (st' := []) inferInstance rfl rfl (fun hb => ?_) (fun hb => ?_)
            · have hq := hq.1 hb
              refine ev_seq 5 (ip' := 68) (loc' := [some (.ref 46), some (.int x1), some (.int x2)]) (st' := [(.int (16 + x1)), (.ref 508)]) (I1 := I1) (T1 := T1) rfl ?_
              obtain ⟨hg, hq⟩ := hq
              refine ev_iald rfl rfl hg ?_
              refine ev_seq 1 (ip' := 74) (loc' := [some (.ref 46), some (.int x1), some (.int x2)]) (st' := [(.int (I1 508 (16 + x1).toNatClampNeg))]) (I1 := I1) (T1 := T1) rfl ?_
              refine ev_fg [false, false, false] (loc' := [none, none, none]) rfl ?_
              exact s_M_feeling_74 (T := T1) hq
            · have hq := hq.2 hb
              refine ev_seq 3 (ip' := 73) (loc' := [some (.ref 46), some (.int x1), some (.int x2)]) (st' := [(.int x1), (.ref 84)]) (I1 := I1) (T1 := T1) rfl ?_
              obtain ⟨hg, hq⟩ := hq
              refine ev_iald rfl rfl hg ?_
              refine ev_fg [false, false, false] (loc' := [none, none, none]) rfl ?_
              exact s_M_feeling_74 (T := T1) hq
      · have hq := hq.2 hb
        refine ev_seq 3 (ip' := 36) (loc' := [some (.ref 46), some (.int x1), some (.int x2)]) (st' := [(.int x1), (.ref 60)]) (I1 := I1) (T1 := T1) rfl ?_
        obtain ⟨hg, hq⟩ := hq
        have hr2 := hg
        refine ev_aald rfl rfl hg (RF_60 hg.2) ?_
        refine ev_seq 1 (ip' := 38) (loc' := [some (.ref 46), some (.int x1), some (.int x2)]) (st' := [(.int x2), (.ref (61 + x1.toNatClampNeg))]) (I1 := I1) (T1 := T1) rfl ?_
        obtain ⟨hg, hq⟩ := hq
        refine ev_iald rfl (KF_60 hr2.2) hg ?_
        exact ev_ret rfl rfl hq
    · have hq := hq.2 hb
      refine ev_fg [false, false, false] (loc' := [none, none, none]) rfl ?_
      exact s_M_feeling_28 (T := T1) hq
  · exact ⟨by decide, hq⟩
def t_M_feeling_11 (E : MEnv) (I : II) (T : TT) (Q : QQ) (x1 : Int32) (x2 : Int32) (y1 : Int32) : Prop := ev E 58 0 [some (.ref 46), some (.int y1), some (.int 1), some (.int 0)] [] I T (KI (fun v1 I1 T1 => (v1 = 0 → (ev E 57 0 [some (.int x2), some (.int 0), some (.int 5)] [] I1 T1 (KI (fun v2 I2 T2 => (v2 = 0 → (t_M_feeling_24 E I2 T2 Q x1 x2 1)) ∧ (¬ (v2 = 0) → (t_M_feeling_24 E I2 T2 Q x1 x2 0))) (fun _ _ _ => False)))) ∧ (¬ (v1 = 0) → (t_M_feeling_28 E I1 T1 Q ))) (fun x I1 T1 => Q (.inr x) I1 T1))
theorem s_M_feeling_11 {E : MEnv} {I : II} {T : TT} {Q : QQ} {x1 : Int32} {x2 : Int32} {y1 : Int32} (hq : t_M_feeling_11 E I T Q x1 x2 y1) : ev E 189 11 [some (.ref 46), some (.int x1), some (.int x2)] [(.int y1), (.ref 46)] I T Q := by
  unfold t_M_feeling_11 at hq
  refine ev_seq 2 (ip' := 13) (loc' := [some (.ref 46), some (.int x1), some (.int x2)]) (st' := [(.int 0), (.int 1), (.int y1), (.ref 46)]) (I1 := I) (T1 := T) rfl ?_
  refine ev_callI rfl rfl rfl (fun v1 I1 T1 hq => ?_) (fun x I1 T1 hq => ?_) hq
  · refine ev_br (p := v1 = 0) (a := 15) (b := 28) (st' := []) inferInstance rfl rfl (fun hb => ?_) (fun hb => ?_)
    · have hq := hq.1 hb
      refine ev_seq 4 (ip' := 19) (loc' := [some (.ref 46), some (.int x1), some (.int x2)]) (st' := [(.int 5), (.int 0), (.int x2), (.ref 46)]) (I1 := I1) (T1 := T1) rfl ?_
      refine ev_callI rfl rfl rfl (fun v2 I2 T2 hq => ?_) (fun x I1 T1 hq => ?_) hq
      · refine ev_br (p := v2 = 0) (a := 21) (b := 23) (st' := [(.ref 46)]) inferInstance rfl rfl (fun hb => ?_) (fun hb => ?_)
        · have hq := hq.1 hb
          refine ev_seq 2 (ip' := 24) (loc' := [some (.ref 46), some (.int x1), some (.int x2)]) (st' := [(.int 1), (.ref 46)]) (I1 := I2) (T1 := T2) rfl ?_
          exact s_M_feeling_24 (T := T2) hq
        · have hq := hq.2 hb
          refine ev_seq 1 (ip' := 24) (loc' := [some (.ref 46), some (.int x1), some (.int x2)]) (st' := [(.int 0), (.ref 46)]) (I1 := I2) (T1 := T2) rfl ?_
          exact s_M_feeling_24 (T := T2) hq
      · exact hq.elim
    · have hq := hq.2 hb
      refine ev_fg [false, false, false] (loc' := [none, none, none]) rfl ?_
      exact s_M_feeling_28 (T := T1) hq
  · exact ⟨by decide, hq⟩
def t_M_feeling_0 (E : MEnv) (I : II) (T : TT) (Q : QQ) (x1 : Int32) (x2 : Int32) : Prop := ev E 190 0 [some (.ref 46), some (.int x1)] [] (m_up I 46 0 0) T (KI (fun v1 I1 T1 => (v1 = 0 → (t_M_feeling_11 E I1 T1 Q x1 x2 1)) ∧ (¬ (v1 = 0) → (t_M_feeling_11 E I1 T1 Q x1 x2 0))) (fun x I1 T1 => Q (.inr x) I1 T1))
theorem s_M_feeling_0 {E : MEnv} {I : II} {T : TT} {Q : QQ} {x1 : Int32} {x2 : Int32} (hq : t_M_feeling_0 E I T Q x1 x2) : ev E 189 0 [some (.ref 46), some (.int x1), some (.int x2)] [] I T Q := by
  unfold t_M_feeling_0 at hq
  refine ev_seq 6 (ip' := 6) (loc' := [some (.ref 46), some (.int x1), some (.int x2)]) (st' := [(.int x1), (.ref 46), (.ref 46)]) (I1 := m_up I 46 0 0) (T1 := T) rfl ?_
  refine ev_callI rfl rfl rfl (fun v1 I1 T1 hq => ?_) (fun x I1 T1 hq => ?_) hq
  · refine ev_br (p := v1 = 0) (a := 8) (b := 10) (st' := [(.ref 46)]) inferInstance rfl rfl (fun hb => ?_) (fun hb => ?_)
    · have hq := hq.1 hb
      refine ev_seq 2 (ip' := 11) (loc' := [some (.ref 46), some (.int x1), some (.int x2)]) (st' := [(.int 1), (.ref 46)]) (I1 := I1) (T1 := T1) rfl ?_
      exact s_M_feeling_11 (T := T1) hq
    · have hq := hq.2 hb
      refine ev_seq 1 (ip' := 11) (loc' := [some (.ref 46), some (.int x1), some (.int x2)]) (st' := [(.int 0), (.ref 46)]) (I1 := I1) (T1 := T1) rfl ?_
      exact s_M_feeling_11 (T := T1) hq
  · exact ⟨by decide, hq⟩
/-- FeltHarnessModel.fits(I)I -/
def t_M_fits_72 (E : MEnv) (I : II) (T : TT) (Q : QQ) (y0 : Int32) : Prop := Q (.inl (some (.int y0))) I T
theorem s_M_fits_72 {E : MEnv} {I : II} {T : TT} {Q : QQ} {y0 : Int32} (hq : t_M_fits_72 E I T Q y0) : ev E 252 72 [none, none, none, none, none, none] [(.int y0)] I T Q := by
  unfold t_M_fits_72 at hq
  exact ev_ret rfl rfl hq
def t_M_fits_63 (E : MEnv) (I : II) (T : TT) (Q : QQ) (x1 : Int32) (x2 : Int32) (x3 : Int32) (x4 : Int32) (x5 : Int32) : Prop := ev E 252 32 [some (.ref 46), some (.int x1), some (.int x2), some (.int x3), some (.int x4), some (.int (x5 + 1))] [] I T Q
theorem s_M_fits_63 {E : MEnv} {I : II} {T : TT} {Q : QQ} {x1 : Int32} {x2 : Int32} {x3 : Int32} {x4 : Int32} {x5 : Int32} (hq : t_M_fits_63 E I T Q x1 x2 x3 x4 x5) : ev E 252 63 [some (.ref 46), some (.int x1), some (.int x2), some (.int x3), some (.int x4), some (.int x5)] [] I T Q := by
  unfold t_M_fits_63 at hq
  refine ev_seq 2 (ip' := 32) (loc' := [some (.ref 46), some (.int x1), some (.int x2), some (.int x3), some (.int x4), some (.int (x5 + 1))]) (st' := []) (I1 := I) (T1 := T) rfl ?_
  exact hq
def t_M_fits_61 (E : MEnv) (I : II) (T : TT) (Q : QQ) (x1 : Int32) (x2 : Int32) (x4 : Int32) (x5 : Int32) (y0 : Int32) : Prop := t_M_fits_63 E I T Q x1 (x2 + 1) y0 x4 x5
theorem s_M_fits_61 {E : MEnv} {I : II} {T : TT} {Q : QQ} {x1 : Int32} {x2 : Int32} {x4 : Int32} {x5 : Int32} {y0 : Int32} (hq : t_M_fits_61 E I T Q x1 x2 x4 x5 y0) : ev E 252 61 [some (.ref 46), some (.int x1), some (.int x2), none, some (.int x4), some (.int x5)] [(.int y0)] I T Q := by
  unfold t_M_fits_61 at hq
  refine ev_seq 2 (ip' := 63) (loc' := [some (.ref 46), some (.int x1), some (.int (x2 + 1)), some (.int y0), some (.int x4), some (.int x5)]) (st' := []) (I1 := I) (T1 := T) rfl ?_
  exact s_M_fits_63 (T := T) hq
def t_M_fits_32 (E : MEnv) (I : II) (T : TT) (Q : QQ) (x1 : Int32) (x2 : Int32) (x3 : Int32) (x4 : Int32) (x5 : Int32) : Prop := ((I 50 0) ≤ x5 → (ev E 252 24 [some (.ref 46), some (.int x1), some (.int x2), some (.int x3), some (.int (x4 + 1)), none] [] I T Q)) ∧ (¬ ((I 50 0) ≤ x5) → ((¬ (0 + x5) < 0 ∧ (0 + x5).toNatClampNeg < 29) ∧ (((I 508 (0 + x5).toNatClampNeg) = (-1) → (t_M_fits_63 E I T Q x1 x2 x3 x4 x5)) ∧ (¬ ((I 508 (0 + x5).toNatClampNeg) = (-1)) → (ev E 253 0 [some (.ref 46), some (.int x4), some (.int x5), none] [] I T (KI (fun v1 I1 T1 => (v1 = 0 → (t_M_fits_63 E I1 T1 Q x1 x2 x3 x4 x5)) ∧ (¬ (v1 = 0) → ((x2 = 0 → (t_M_fits_61 E I1 T1 Q x1 x2 x4 x5 ((10 * x4) + x5))) ∧ (¬ (x2 = 0) → (t_M_fits_61 E I1 T1 Q x1 x2 x4 x5 x3))))) (fun x I1 T1 => Q (.inr x) I1 T1)))))))
theorem s_M_fits_32 {E : MEnv} {I : II} {T : TT} {Q : QQ} {x1 : Int32} {x2 : Int32} {x3 : Int32} {x4 : Int32} {x5 : Int32} (hq : t_M_fits_32 E I T Q x1 x2 x3 x4 x5) : ev E 252 32 [some (.ref 46), some (.int x1), some (.int x2), some (.int x3), some (.int x4), some (.int x5)] [] I T Q := by
  unfold t_M_fits_32 at hq
  refine ev_seq 5 (ip' := 37) (loc' := [some (.ref 46), some (.int x1), some (.int x2), some (.int x3), some (.int x4), some (.int x5)]) (st' := [(.int (I 50 0)), (.int x5)]) (I1 := I) (T1 := T) rfl ?_
  refine ev_br (p := (I 50 0) ≤ x5) (a := 65) (b := 38) (st' := []) inferInstance rfl rfl (fun hb => ?_) (fun hb => ?_)
  · have hq := hq.1 hb
    refine ev_seq 2 (ip' := 24) (loc' := [some (.ref 46), some (.int x1), some (.int x2), some (.int x3), some (.int (x4 + 1)), some (.int x5)]) (st' := []) (I1 := I) (T1 := T) rfl ?_
    refine ev_fg [true, true, true, true, true, false] (loc' := [some (.ref 46), some (.int x1), some (.int x2), some (.int x3), some (.int (x4 + 1)), none]) rfl ?_
    exact hq
  · have hq := hq.2 hb
    refine ev_seq 5 (ip' := 43) (loc' := [some (.ref 46), some (.int x1), some (.int x2), some (.int x3), some (.int x4), some (.int x5)]) (st' := [(.int (0 + x5)), (.ref 508)]) (I1 := I) (T1 := T) rfl ?_
    obtain ⟨hg, hq⟩ := hq
    refine ev_iald rfl rfl hg ?_
    refine ev_seq 1 (ip' := 45) (loc' := [some (.ref 46), some (.int x1), some (.int x2), some (.int x3), some (.int x4), some (.int x5)]) (st' := [(.int (-1)), (.int (I 508 (0 + x5).toNatClampNeg))]) (I1 := I) (T1 := T) rfl ?_
    refine ev_br (p := (I 508 (0 + x5).toNatClampNeg) = (-1)) (a := 63) (b := 46) (st' := []) inferInstance rfl rfl (fun hb => ?_) (fun hb => ?_)
    · have hq := hq.1 hb
      exact s_M_fits_63 (T := T) hq
    · have hq := hq.2 hb
      refine ev_seq 3 (ip' := 49) (loc' := [some (.ref 46), some (.int x1), some (.int x2), some (.int x3), some (.int x4), some (.int x5)]) (st' := [(.int x5), (.int x4), (.ref 46)]) (I1 := I) (T1 := T) rfl ?_
      refine ev_callI rfl rfl rfl (fun v1 I1 T1 hq => ?_) (fun x I1 T1 hq => ?_) hq
      · refine ev_br (p := v1 = 0) (a := 51) (b := 52) (st' := []) inferInstance rfl rfl (fun hb => ?_) (fun hb => ?_)
        · have hq := hq.1 hb
          refine ev_seq 1 (ip' := 63) (loc' := [some (.ref 46), some (.int x1), some (.int x2), some (.int x3), some (.int x4), some (.int x5)]) (st' := []) (I1 := I1) (T1 := T1) rfl ?_
          exact s_M_fits_63 (T := T1) hq
        · have hq := hq.2 hb
          refine ev_seq 1 (ip' := 53) (loc' := [some (.ref 46), some (.int x1), some (.int x2), some (.int x3), some (.int x4), some (.int x5)]) (st' := [(.int x2)]) (I1 := I1) (T1 := T1) rfl ?_
          refine ev_br (p := x2 = 0) (a := 54) (b := 60) (st' := []) inferInstance rfl rfl (fun hb => ?_) (fun hb => ?_)
          · have hq := hq.1 hb
            refine ev_seq 6 (ip' := 61) (loc' := [some (.ref 46), some (.int x1), some (.int x2), some (.int x3), some (.int x4), some (.int x5)]) (st' := [(.int ((10 * x4) + x5))]) (I1 := I1) (T1 := T1) rfl ?_
            refine ev_fg [true, true, true, false, true, true] (loc' := [some (.ref 46), some (.int x1), some (.int x2), none, some (.int x4), some (.int x5)]) rfl ?_
            exact s_M_fits_61 (T := T1) hq
          · have hq := hq.2 hb
            refine ev_seq 1 (ip' := 61) (loc' := [some (.ref 46), some (.int x1), some (.int x2), some (.int x3), some (.int x4), some (.int x5)]) (st' := [(.int x3)]) (I1 := I1) (T1 := T1) rfl ?_
            refine ev_fg [true, true, true, false, true, true] (loc' := [some (.ref 46), some (.int x1), some (.int x2), none, some (.int x4), some (.int x5)]) rfl ?_
            exact s_M_fits_61 (T := T1) hq
      · exact ⟨by decide, hq⟩
def t_M_fits_24 (E : MEnv) (I : II) (T : TT) (Q : QQ) (x1 : Int32) (x2 : Int32) (x3 : Int32) (x4 : Int32) : Prop := ((I 50 1) ≤ x4 → ((x1 = 0 → (t_M_fits_72 E I T Q x2)) ∧ (¬ (x1 = 0) → (t_M_fits_72 E I T Q x3)))) ∧ (¬ ((I 50 1) ≤ x4) → (t_M_fits_32 E I T Q x1 x2 x3 x4 0))
theorem s_M_fits_24 {E : MEnv} {I : II} {T : TT} {Q : QQ} {x1 : Int32} {x2 : Int32} {x3 : Int32} {x4 : Int32} (hq : t_M_fits_24 E I T Q x1 x2 x3 x4) : ev E 252 24 [some (.ref 46), some (.int x1), some (.int x2), some (.int x3), some (.int x4), none] [] I T Q := by
  unfold t_M_fits_24 at hq
  refine ev_seq 5 (ip' := 29) (loc' := [some (.ref 46), some (.int x1), some (.int x2), some (.int x3), some (.int x4), none]) (st' := [(.int (I 50 1)), (.int x4)]) (I1 := I) (T1 := T) rfl ?_
  refine ev_br (p := (I 50 1) ≤ x4) (a := 67) (b := 30) (st' := []) inferInstance rfl rfl (fun hb => ?_) (fun hb => ?_)
  · have hq := hq.1 hb
    refine ev_seq 1 (ip' := 68) (loc' := [some (.ref 46), some (.int x1), some (.int x2), some (.int x3), some (.int x4), none]) (st' := [(.int x1)]) (I1 := I) (T1 := T) rfl ?_
    refine ev_br (p := x1 = 0) (a := 69) (b := 71) (st' := []) inferInstance rfl rfl (fun hb => ?_) (fun hb => ?_)
    · have hq := hq.1 hb
      refine ev_seq 2 (ip' := 72) (loc' := [some (.ref 46), some (.int x1), some (.int x2), some (.int x3), some (.int x4), none]) (st' := [(.int x2)]) (I1 := I) (T1 := T) rfl ?_
      refine ev_fg [false, false, false, false, false, true] (loc' := [none, none, none, none, none, none]) rfl ?_
      exact s_M_fits_72 (T := T) hq
    · have hq := hq.2 hb
      refine ev_seq 1 (ip' := 72) (loc' := [some (.ref 46), some (.int x1), some (.int x2), some (.int x3), some (.int x4), none]) (st' := [(.int x3)]) (I1 := I) (T1 := T) rfl ?_
      refine ev_fg [false, false, false, false, false, true] (loc' := [none, none, none, none, none, none]) rfl ?_
      exact s_M_fits_72 (T := T) hq
  · have hq := hq.2 hb
    refine ev_seq 2 (ip' := 32) (loc' := [some (.ref 46), some (.int x1), some (.int x2), some (.int x3), some (.int x4), some (.int 0)]) (st' := []) (I1 := I) (T1 := T) rfl ?_
    exact s_M_fits_32 (T := T) hq
def t_M_fits_12 (E : MEnv) (I : II) (T : TT) (Q : QQ) (x1 : Int32) (y1 : Int32) : Prop := ev E 58 0 [some (.ref 46), some (.int y1), some (.int 1), some (.int 1)] [] I T (KI (fun v1 I1 T1 => (v1 = 0 → (t_M_fits_24 E I1 T1 Q x1 0 (-1) 0)) ∧ (¬ (v1 = 0) → (Q (.inl (some (.int 0))) I1 T1))) (fun x I1 T1 => Q (.inr x) I1 T1))
theorem s_M_fits_12 {E : MEnv} {I : II} {T : TT} {Q : QQ} {x1 : Int32} {y1 : Int32} (hq : t_M_fits_12 E I T Q x1 y1) : ev E 252 12 [some (.ref 46), some (.int x1), none, none, none, none] [(.int y1), (.ref 46)] I T Q := by
  unfold t_M_fits_12 at hq
  refine ev_seq 2 (ip' := 14) (loc' := [some (.ref 46), some (.int x1), none, none, none, none]) (st' := [(.int 1), (.int 1), (.int y1), (.ref 46)]) (I1 := I) (T1 := T) rfl ?_
  refine ev_callI rfl rfl rfl (fun v1 I1 T1 hq => ?_) (fun x I1 T1 hq => ?_) hq
  · refine ev_br (p := v1 = 0) (a := 18) (b := 16) (st' := []) inferInstance rfl rfl (fun hb => ?_) (fun hb => ?_)
    · have hq := hq.1 hb
      refine ev_seq 6 (ip' := 24) (loc' := [some (.ref 46), some (.int x1), some (.int 0), some (.int (-1)), some (.int 0), none]) (st' := []) (I1 := I1) (T1 := T1) rfl ?_
      exact s_M_fits_24 (T := T1) hq
    · have hq := hq.2 hb
      refine ev_seq 1 (ip' := 17) (loc' := [some (.ref 46), some (.int x1), none, none, none, none]) (st' := [(.int 0)]) (I1 := I1) (T1 := T1) rfl ?_
      exact ev_ret rfl rfl hq
  · exact ⟨by decide, hq⟩
def t_M_fits_0 (E : MEnv) (I : II) (T : TT) (Q : QQ) (x1 : Int32) : Prop := ev E 57 0 [some (.int x1), some (.int 0), some (.int 1)] [] (m_up I 46 0 0) T (KI (fun v1 I1 T1 => (v1 = 0 → (t_M_fits_12 E I1 T1 Q x1 1)) ∧ (¬ (v1 = 0) → (t_M_fits_12 E I1 T1 Q x1 0))) (fun _ _ _ => False))
theorem s_M_fits_0 {E : MEnv} {I : II} {T : TT} {Q : QQ} {x1 : Int32} (hq : t_M_fits_0 E I T Q x1) : ev E 252 0 [some (.ref 46), some (.int x1), none, none, none, none] [] I T Q := by
  unfold t_M_fits_0 at hq
  refine ev_seq 7 (ip' := 7) (loc' := [some (.ref 46), some (.int x1), none, none, none, none]) (st' := [(.int 1), (.int 0), (.int x1), (.ref 46)]) (I1 := m_up I 46 0 0) (T1 := T) rfl ?_
  refine ev_callI rfl rfl rfl (fun v1 I1 T1 hq => ?_) (fun x I1 T1 hq => ?_) hq
  · refine ev_br (p := v1 = 0) (a := 9) (b := 11) (st' := [(.ref 46)]) inferInstance rfl rfl (fun hb => ?_) (fun hb => ?_)
    · have hq := hq.1 hb
      refine ev_seq 2 (ip' := 12) (loc' := [some (.ref 46), some (.int x1), none, none, none, none]) (st' := [(.int 1), (.ref 46)]) (I1 := I1) (T1 := T1) rfl ?_
      exact s_M_fits_12 (T := T1) hq
    · have hq := hq.2 hb
      refine ev_seq 1 (ip' := 12) (loc' := [some (.ref 46), some (.int x1), none, none, none, none]) (st' := [(.int 0), (.ref 46)]) (I1 := I1) (T1 := T1) rfl ?_
      exact s_M_fits_12 (T := T1) hq
  · exact hq.elim
/-- FeltHarnessModel.force(II)I -/
def t_M_force_26 (E : MEnv) (I : II) (T : TT) (Q : QQ) : Prop := Q (.inl (some (.int 0))) I T
theorem s_M_force_26 {E : MEnv} {I : II} {T : TT} {Q : QQ} (hq : t_M_force_26 E I T Q) : ev E 203 26 [none, none, none] [] I T Q := by
  unfold t_M_force_26 at hq
  refine ev_seq 1 (ip' := 27) (loc' := [none, none, none]) (st' := [(.int 0)]) (I1 := I) (T1 := T) rfl ?_
  exact ev_ret rfl rfl hq
def t_M_force_22 (E : MEnv) (I : II) (T : TT) (Q : QQ) (x1 : Int32) (x2 : Int32) (y1 : Int32) : Prop := ev E 58 0 [some (.ref 46), some (.int y1), some (.int 2), some (.int 1)] [] I T (KI (fun v1 I1 T1 => (v1 = 0 → (ev E 152 0 [some (.ref 46), some (.ref 508), none, none] [] I1 T1 (KI (fun v2 I2 T2 => ev E 157 0 [some (.int v2), none, none] [] I2 T2 (KI (fun v3 I3 T3 => ev E 158 0 [some (.ref 46), some (.ref 508), some (.int x1), some (.int x2), some (.int v3)] [] I3 T3 (KI (fun v4 I4 T4 => Q (.inl (some (.int v4))) I4 T4) (fun x I1 T1 => Q (.inr x) I1 T1))) (fun _ _ _ => False))) (fun x I1 T1 => Q (.inr x) I1 T1)))) ∧ (¬ (v1 = 0) → (t_M_force_26 E I1 T1 Q ))) (fun x I1 T1 => Q (.inr x) I1 T1))
theorem s_M_force_22 {E : MEnv} {I : II} {T : TT} {Q : QQ} {x1 : Int32} {x2 : Int32} {y1 : Int32} (hq : t_M_force_22 E I T Q x1 x2 y1) : ev E 203 22 [some (.ref 46), some (.int x1), some (.int x2)] [(.int y1), (.ref 46)] I T Q := by
  unfold t_M_force_22 at hq
  refine ev_seq 2 (ip' := 24) (loc' := [some (.ref 46), some (.int x1), some (.int x2)]) (st' := [(.int 1), (.int 2), (.int y1), (.ref 46)]) (I1 := I) (T1 := T) rfl ?_
  refine ev_callI rfl rfl rfl (fun v1 I1 T1 hq => ?_) (fun x I1 T1 hq => ?_) hq
  · refine ev_br (p := v1 = 0) (a := 28) (b := 26) (st' := []) inferInstance rfl rfl (fun hb => ?_) (fun hb => ?_)
    · have hq := hq.1 hb
      refine ev_seq 8 (ip' := 36) (loc' := [some (.ref 46), some (.int x1), some (.int x2)]) (st' := [(.ref 508), (.ref 46), (.int x2), (.int x1), (.ref 508), (.ref 46)]) (I1 := I1) (T1 := T1) rfl ?_
      refine ev_callI rfl rfl rfl (fun v2 I2 T2 hq => ?_) (fun x I1 T1 hq => ?_) hq
      · refine ev_callI rfl rfl rfl (fun v3 I3 T3 hq => ?_) (fun x I1 T1 hq => ?_) hq
        · refine ev_callI rfl rfl rfl (fun v4 I4 T4 hq => ?_) (fun x I1 T1 hq => ?_) hq
          · exact ev_ret rfl rfl hq
          · exact ⟨by decide, hq⟩
        · exact hq.elim
      · exact ⟨by decide, hq⟩
    · have hq := hq.2 hb
      refine ev_fg [false, false, false] (loc' := [none, none, none]) rfl ?_
      exact s_M_force_26 (T := T1) hq
  · exact ⟨by decide, hq⟩
def t_M_force_11 (E : MEnv) (I : II) (T : TT) (Q : QQ) (x1 : Int32) (x2 : Int32) (y1 : Int32) : Prop := ev E 58 0 [some (.ref 46), some (.int y1), some (.int 1), some (.int 0)] [] I T (KI (fun v1 I1 T1 => (v1 = 0 → (ev E 200 0 [some (.int x2)] [] I1 T1 (KI (fun v2 I2 T2 => (v2 = 0 → (t_M_force_22 E I2 T2 Q x1 x2 1)) ∧ (¬ (v2 = 0) → (t_M_force_22 E I2 T2 Q x1 x2 0))) (fun _ _ _ => False)))) ∧ (¬ (v1 = 0) → (t_M_force_26 E I1 T1 Q ))) (fun x I1 T1 => Q (.inr x) I1 T1))
theorem s_M_force_11 {E : MEnv} {I : II} {T : TT} {Q : QQ} {x1 : Int32} {x2 : Int32} {y1 : Int32} (hq : t_M_force_11 E I T Q x1 x2 y1) : ev E 203 11 [some (.ref 46), some (.int x1), some (.int x2)] [(.int y1), (.ref 46)] I T Q := by
  unfold t_M_force_11 at hq
  refine ev_seq 2 (ip' := 13) (loc' := [some (.ref 46), some (.int x1), some (.int x2)]) (st' := [(.int 0), (.int 1), (.int y1), (.ref 46)]) (I1 := I) (T1 := T) rfl ?_
  refine ev_callI rfl rfl rfl (fun v1 I1 T1 hq => ?_) (fun x I1 T1 hq => ?_) hq
  · refine ev_br (p := v1 = 0) (a := 15) (b := 26) (st' := []) inferInstance rfl rfl (fun hb => ?_) (fun hb => ?_)
    · have hq := hq.1 hb
      refine ev_seq 2 (ip' := 17) (loc' := [some (.ref 46), some (.int x1), some (.int x2)]) (st' := [(.int x2), (.ref 46)]) (I1 := I1) (T1 := T1) rfl ?_
      refine ev_callI rfl rfl rfl (fun v2 I2 T2 hq => ?_) (fun x I1 T1 hq => ?_) hq
      · refine ev_br (p := v2 = 0) (a := 19) (b := 21) (st' := [(.ref 46)]) inferInstance rfl rfl (fun hb => ?_) (fun hb => ?_)
        · have hq := hq.1 hb
          refine ev_seq 2 (ip' := 22) (loc' := [some (.ref 46), some (.int x1), some (.int x2)]) (st' := [(.int 1), (.ref 46)]) (I1 := I2) (T1 := T2) rfl ?_
          exact s_M_force_22 (T := T2) hq
        · have hq := hq.2 hb
          refine ev_seq 1 (ip' := 22) (loc' := [some (.ref 46), some (.int x1), some (.int x2)]) (st' := [(.int 0), (.ref 46)]) (I1 := I2) (T1 := T2) rfl ?_
          exact s_M_force_22 (T := T2) hq
      · exact hq.elim
    · have hq := hq.2 hb
      refine ev_fg [false, false, false] (loc' := [none, none, none]) rfl ?_
      exact s_M_force_26 (T := T1) hq
  · exact ⟨by decide, hq⟩
def t_M_force_0 (E : MEnv) (I : II) (T : TT) (Q : QQ) (x1 : Int32) (x2 : Int32) : Prop := ev E 190 0 [some (.ref 46), some (.int x1)] [] (m_up I 46 0 0) T (KI (fun v1 I1 T1 => (v1 = 0 → (t_M_force_11 E I1 T1 Q x1 x2 1)) ∧ (¬ (v1 = 0) → (t_M_force_11 E I1 T1 Q x1 x2 0))) (fun x I1 T1 => Q (.inr x) I1 T1))
theorem s_M_force_0 {E : MEnv} {I : II} {T : TT} {Q : QQ} {x1 : Int32} {x2 : Int32} (hq : t_M_force_0 E I T Q x1 x2) : ev E 203 0 [some (.ref 46), some (.int x1), some (.int x2)] [] I T Q := by
  unfold t_M_force_0 at hq
  refine ev_seq 6 (ip' := 6) (loc' := [some (.ref 46), some (.int x1), some (.int x2)]) (st' := [(.int x1), (.ref 46), (.ref 46)]) (I1 := m_up I 46 0 0) (T1 := T) rfl ?_
  refine ev_callI rfl rfl rfl (fun v1 I1 T1 hq => ?_) (fun x I1 T1 hq => ?_) hq
  · refine ev_br (p := v1 = 0) (a := 8) (b := 10) (st' := [(.ref 46)]) inferInstance rfl rfl (fun hb => ?_) (fun hb => ?_)
    · have hq := hq.1 hb
      refine ev_seq 2 (ip' := 11) (loc' := [some (.ref 46), some (.int x1), some (.int x2)]) (st' := [(.int 1), (.ref 46)]) (I1 := I1) (T1 := T1) rfl ?_
      exact s_M_force_11 (T := T1) hq
    · have hq := hq.2 hb
      refine ev_seq 1 (ip' := 11) (loc' := [some (.ref 46), some (.int x1), some (.int x2)]) (st' := [(.int 0), (.ref 46)]) (I1 := I1) (T1 := T1) rfl ?_
      exact s_M_force_11 (T := T1) hq
  · exact ⟨by decide, hq⟩
/-- FeltHarnessModel.forceBy(IIIIIIII)I -/
def t_M_forceBy_0 (E : MEnv) (I : II) (T : TT) (Q : QQ) (x1 : Int32) (x2 : Int32) (x3 : Int32) (x4 : Int32) (x5 : Int32) (x6 : Int32) (x7 : Int32) (x8 : Int32) : Prop := ev E 160 0 [some (.ref 46), none, none] [] (m_up (m_up (m_up (m_up (m_up (m_up (m_up (m_up I 426 0 x1) 426 1 x2) 426 2 x3) 426 3 x4) 426 4 x5) 426 5 x6) 426 6 x7) 426 7 x8) T (KI (fun v1 I1 T1 => Q (.inl (some (.int v1))) I1 T1) (fun x I1 T1 => Q (.inr x) I1 T1))
theorem s_M_forceBy_0 {E : MEnv} {I : II} {T : TT} {Q : QQ} {x1 : Int32} {x2 : Int32} {x3 : Int32} {x4 : Int32} {x5 : Int32} {x6 : Int32} {x7 : Int32} {x8 : Int32} (hq : t_M_forceBy_0 E I T Q x1 x2 x3 x4 x5 x6 x7 x8) : ev E 159 0 [some (.ref 46), some (.int x1), some (.int x2), some (.int x3), some (.int x4), some (.int x5), some (.int x6), some (.int x7), some (.int x8)] [] I T Q := by
  unfold t_M_forceBy_0 at hq
  refine ev_seq 41 (ip' := 41) (loc' := [some (.ref 46), some (.int x1), some (.int x2), some (.int x3), some (.int x4), some (.int x5), some (.int x6), some (.int x7), some (.int x8)]) (st' := [(.ref 46)]) (I1 := m_up (m_up (m_up (m_up (m_up (m_up (m_up (m_up I 426 0 x1) 426 1 x2) 426 2 x3) 426 3 x4) 426 4 x5) 426 5 x6) 426 6 x7) 426 7 x8) (T1 := T) rfl ?_
  refine ev_callI rfl rfl rfl (fun v1 I1 T1 hq => ?_) (fun x I1 T1 hq => ?_) hq
  · exact ev_ret rfl rfl hq
  · exact ⟨by decide, hq⟩
/-- FeltHarnessModel.forceOf([IIII)I -/
def t_M_forceOf_508_0 (E : MEnv) (I : II) (T : TT) (Q : QQ) (x2 : Int32) (x3 : Int32) (x4 : Int32) : Prop := (¬ x2 < 0 ∧ x2.toNatClampNeg < 8) ∧ ((¬ x2 < 0 ∧ x2.toNatClampNeg < 8) ∧ ((¬ (8 + x2) < 0 ∧ (8 + x2).toNatClampNeg < 29) ∧ ((¬ (16 + x2) < 0 ∧ (16 + x2).toNatClampNeg < 29) ∧ (ev E 159 0 [some (.ref 46), some (.int (I (61 + x2.toNatClampNeg) 0)), some (.int (I (61 + x2.toNatClampNeg) 1)), some (.int (I 508 (8 + x2).toNatClampNeg)), some (.int (I 508 (16 + x2).toNatClampNeg)), some (.int x3), some (.int (I 508 25)), some (.int x4), some (.int (I 508 24))] [] I T (KI (fun v3 I3 T3 => Q (.inl (some (.int v3))) I3 T3) (fun x I1 T1 => Q (.inr x) I1 T1))))))
theorem s_M_forceOf_508_0 {E : MEnv} {I : II} {T : TT} {Q : QQ} {x2 : Int32} {x3 : Int32} {x4 : Int32} (hq : t_M_forceOf_508_0 E I T Q x2 x3 x4) : ev E 158 0 [some (.ref 46), some (.ref 508), some (.int x2), some (.int x3), some (.int x4)] [] I T Q := by
  unfold t_M_forceOf_508_0 at hq
  refine ev_seq 4 (ip' := 4) (loc' := [some (.ref 46), some (.ref 508), some (.int x2), some (.int x3), some (.int x4)]) (st' := [(.int x2), (.ref 60), (.ref 46)]) (I1 := I) (T1 := T) rfl ?_
  obtain ⟨hg, hq⟩ := hq
  have hr1 := hg
  refine ev_aald rfl rfl hg (RF_60 hg.2) ?_
  refine ev_seq 1 (ip' := 6) (loc' := [some (.ref 46), some (.ref 508), some (.int x2), some (.int x3), some (.int x4)]) (st' := [(.int 0), (.ref (61 + x2.toNatClampNeg)), (.ref 46)]) (I1 := I) (T1 := T) rfl ?_
  refine ev_iald rfl (KF_60 hr1.2) ⟨by decide, by decide⟩ ?_
  refine ev_seq 3 (ip' := 10) (loc' := [some (.ref 46), some (.ref 508), some (.int x2), some (.int x3), some (.int x4)]) (st' := [(.int x2), (.ref 60), (.int (I (61 + x2.toNatClampNeg) 0)), (.ref 46)]) (I1 := I) (T1 := T) rfl ?_
  obtain ⟨hg, hq⟩ := hq
  have hr2 := hg
  refine ev_aald rfl rfl hg (RF_60 hg.2) ?_
  refine ev_seq 1 (ip' := 12) (loc' := [some (.ref 46), some (.ref 508), some (.int x2), some (.int x3), some (.int x4)]) (st' := [(.int 1), (.ref (61 + x2.toNatClampNeg)), (.int (I (61 + x2.toNatClampNeg) 0)), (.ref 46)]) (I1 := I) (T1 := T) rfl ?_
  refine ev_iald rfl (KF_60 hr2.2) ⟨by decide, by decide⟩ ?_
  refine ev_seq 4 (ip' := 17) (loc' := [some (.ref 46), some (.ref 508), some (.int x2), some (.int x3), some (.int x4)]) (st' := [(.int (8 + x2)), (.ref 508), (.int (I (61 + x2.toNatClampNeg) 1)), (.int (I (61 + x2.toNatClampNeg) 0)), (.ref 46)]) (I1 := I) (T1 := T) rfl ?_
  obtain ⟨hg, hq⟩ := hq
  refine ev_iald rfl rfl hg ?_
  refine ev_seq 4 (ip' := 22) (loc' := [some (.ref 46), some (.ref 508), some (.int x2), some (.int x3), some (.int x4)]) (st' := [(.int (16 + x2)), (.ref 508), (.int (I 508 (8 + x2).toNatClampNeg)), (.int (I (61 + x2.toNatClampNeg) 1)), (.int (I (61 + x2.toNatClampNeg) 0)), (.ref 46)]) (I1 := I) (T1 := T) rfl ?_
  obtain ⟨hg, hq⟩ := hq
  refine ev_iald rfl rfl hg ?_
  refine ev_seq 8 (ip' := 31) (loc' := [some (.ref 46), some (.ref 508), some (.int x2), some (.int x3), some (.int x4)]) (st' := [(.int (I 508 24)), (.int x4), (.int (I 508 25)), (.int x3), (.int (I 508 (16 + x2).toNatClampNeg)), (.int (I 508 (8 + x2).toNatClampNeg)), (.int (I (61 + x2.toNatClampNeg) 1)), (.int (I (61 + x2.toNatClampNeg) 0)), (.ref 46)]) (I1 := I) (T1 := T) rfl ?_
  refine ev_callI rfl rfl rfl (fun v3 I3 T3 hq => ?_) (fun x I1 T1 hq => ?_) hq
  · exact ev_ret rfl rfl hq
  · exact ⟨by decide, hq⟩
/-- FeltHarnessModel.forceOf([IIII)I -/
def t_M_forceOf_509_0 (E : MEnv) (I : II) (T : TT) (Q : QQ) (x2 : Int32) (x3 : Int32) (x4 : Int32) : Prop := (¬ x2 < 0 ∧ x2.toNatClampNeg < 8) ∧ ((¬ x2 < 0 ∧ x2.toNatClampNeg < 8) ∧ ((¬ (8 + x2) < 0 ∧ (8 + x2).toNatClampNeg < 29) ∧ ((¬ (16 + x2) < 0 ∧ (16 + x2).toNatClampNeg < 29) ∧ (ev E 159 0 [some (.ref 46), some (.int (I (61 + x2.toNatClampNeg) 0)), some (.int (I (61 + x2.toNatClampNeg) 1)), some (.int (I 509 (8 + x2).toNatClampNeg)), some (.int (I 509 (16 + x2).toNatClampNeg)), some (.int x3), some (.int (I 509 25)), some (.int x4), some (.int (I 509 24))] [] I T (KI (fun v3 I3 T3 => Q (.inl (some (.int v3))) I3 T3) (fun x I1 T1 => Q (.inr x) I1 T1))))))
theorem s_M_forceOf_509_0 {E : MEnv} {I : II} {T : TT} {Q : QQ} {x2 : Int32} {x3 : Int32} {x4 : Int32} (hq : t_M_forceOf_509_0 E I T Q x2 x3 x4) : ev E 158 0 [some (.ref 46), some (.ref 509), some (.int x2), some (.int x3), some (.int x4)] [] I T Q := by
  unfold t_M_forceOf_509_0 at hq
  refine ev_seq 4 (ip' := 4) (loc' := [some (.ref 46), some (.ref 509), some (.int x2), some (.int x3), some (.int x4)]) (st' := [(.int x2), (.ref 60), (.ref 46)]) (I1 := I) (T1 := T) rfl ?_
  obtain ⟨hg, hq⟩ := hq
  have hr1 := hg
  refine ev_aald rfl rfl hg (RF_60 hg.2) ?_
  refine ev_seq 1 (ip' := 6) (loc' := [some (.ref 46), some (.ref 509), some (.int x2), some (.int x3), some (.int x4)]) (st' := [(.int 0), (.ref (61 + x2.toNatClampNeg)), (.ref 46)]) (I1 := I) (T1 := T) rfl ?_
  refine ev_iald rfl (KF_60 hr1.2) ⟨by decide, by decide⟩ ?_
  refine ev_seq 3 (ip' := 10) (loc' := [some (.ref 46), some (.ref 509), some (.int x2), some (.int x3), some (.int x4)]) (st' := [(.int x2), (.ref 60), (.int (I (61 + x2.toNatClampNeg) 0)), (.ref 46)]) (I1 := I) (T1 := T) rfl ?_
  obtain ⟨hg, hq⟩ := hq
  have hr2 := hg
  refine ev_aald rfl rfl hg (RF_60 hg.2) ?_
  refine ev_seq 1 (ip' := 12) (loc' := [some (.ref 46), some (.ref 509), some (.int x2), some (.int x3), some (.int x4)]) (st' := [(.int 1), (.ref (61 + x2.toNatClampNeg)), (.int (I (61 + x2.toNatClampNeg) 0)), (.ref 46)]) (I1 := I) (T1 := T) rfl ?_
  refine ev_iald rfl (KF_60 hr2.2) ⟨by decide, by decide⟩ ?_
  refine ev_seq 4 (ip' := 17) (loc' := [some (.ref 46), some (.ref 509), some (.int x2), some (.int x3), some (.int x4)]) (st' := [(.int (8 + x2)), (.ref 509), (.int (I (61 + x2.toNatClampNeg) 1)), (.int (I (61 + x2.toNatClampNeg) 0)), (.ref 46)]) (I1 := I) (T1 := T) rfl ?_
  obtain ⟨hg, hq⟩ := hq
  refine ev_iald rfl rfl hg ?_
  refine ev_seq 4 (ip' := 22) (loc' := [some (.ref 46), some (.ref 509), some (.int x2), some (.int x3), some (.int x4)]) (st' := [(.int (16 + x2)), (.ref 509), (.int (I 509 (8 + x2).toNatClampNeg)), (.int (I (61 + x2.toNatClampNeg) 1)), (.int (I (61 + x2.toNatClampNeg) 0)), (.ref 46)]) (I1 := I) (T1 := T) rfl ?_
  obtain ⟨hg, hq⟩ := hq
  refine ev_iald rfl rfl hg ?_
  refine ev_seq 8 (ip' := 31) (loc' := [some (.ref 46), some (.ref 509), some (.int x2), some (.int x3), some (.int x4)]) (st' := [(.int (I 509 24)), (.int x4), (.int (I 509 25)), (.int x3), (.int (I 509 (16 + x2).toNatClampNeg)), (.int (I 509 (8 + x2).toNatClampNeg)), (.int (I (61 + x2.toNatClampNeg) 1)), (.int (I (61 + x2.toNatClampNeg) 0)), (.ref 46)]) (I1 := I) (T1 := T) rfl ?_
  refine ev_callI rfl rfl rfl (fun v3 I3 T3 hq => ?_) (fun x I1 T1 hq => ?_) hq
  · exact ev_ret rfl rfl hq
  · exact ⟨by decide, hq⟩
/-- FeltHarnessModel.givenBy(II)I -/
def t_M_givenBy_25 (E : MEnv) (I : II) (T : TT) (Q : QQ) (x1 : Int32) (x2 : Int32) (x4 : Int32) (y0 : Int32) (y1 : Int32) : Prop := ev E 279 4 [some (.ref 46), some (.int x1), some (.int x2), some (.int (y0 + y1)), some (.int (x4 + 1))] [] I T Q
theorem s_M_givenBy_25 {E : MEnv} {I : II} {T : TT} {Q : QQ} {x1 : Int32} {x2 : Int32} {x4 : Int32} {y0 : Int32} {y1 : Int32} (hq : t_M_givenBy_25 E I T Q x1 x2 x4 y0 y1) : ev E 279 25 [some (.ref 46), some (.int x1), some (.int x2), none, some (.int x4)] [(.int y1), (.int y0)] I T Q := by
  unfold t_M_givenBy_25 at hq
  refine ev_seq 4 (ip' := 4) (loc' := [some (.ref 46), some (.int x1), some (.int x2), some (.int (y0 + y1)), some (.int (x4 + 1))]) (st' := []) (I1 := I) (T1 := T) rfl ?_
  exact hq
def t_M_givenBy_4 (E : MEnv) (I : II) (T : TT) (Q : QQ) (x1 : Int32) (x2 : Int32) (x3 : Int32) (x4 : Int32) : Prop := ((I 50 0) ≤ x4 → (Q (.inl (some (.int x3))) I T)) ∧ (¬ ((I 50 0) ≤ x4) → (ev E 166 0 [some (.int x1), some (.int x4)] [] I T (KI (fun v1 I1 T1 => (v1 = 0 → (t_M_givenBy_25 E I1 T1 Q x1 x2 x4 x3 0)) ∧ (¬ (v1 = 0) → ((¬ (16 + x4) < 0 ∧ (16 + x4).toNatClampNeg < 29) ∧ (ev E 162 0 [some (.int x2), some (.int (I1 508 (16 + x4).toNatClampNeg))] [] I1 T1 (KI (fun v2 I2 T2 => t_M_givenBy_25 E I2 T2 Q x1 x2 x4 x3 v2) (fun _ _ _ => False)))))) (fun _ _ _ => False))))
theorem s_M_givenBy_4 {E : MEnv} {I : II} {T : TT} {Q : QQ} {x1 : Int32} {x2 : Int32} {x3 : Int32} {x4 : Int32} (hq : t_M_givenBy_4 E I T Q x1 x2 x3 x4) : ev E 279 4 [some (.ref 46), some (.int x1), some (.int x2), some (.int x3), some (.int x4)] [] I T Q := by
  unfold t_M_givenBy_4 at hq
  refine ev_seq 5 (ip' := 9) (loc' := [some (.ref 46), some (.int x1), some (.int x2), some (.int x3), some (.int x4)]) (st' := [(.int (I 50 0)), (.int x4)]) (I1 := I) (T1 := T) rfl ?_
  refine ev_br (p := (I 50 0) ≤ x4) (a := 29) (b := 10) (st' := []) inferInstance rfl rfl (fun hb => ?_) (fun hb => ?_)
  · have hq := hq.1 hb
    refine ev_seq 1 (ip' := 30) (loc' := [some (.ref 46), some (.int x1), some (.int x2), some (.int x3), some (.int x4)]) (st' := [(.int x3)]) (I1 := I) (T1 := T) rfl ?_
    exact ev_ret rfl rfl hq
  · have hq := hq.2 hb
    refine ev_seq 3 (ip' := 13) (loc' := [some (.ref 46), some (.int x1), some (.int x2), some (.int x3), some (.int x4)]) (st' := [(.int x4), (.int x1), (.int x3)]) (I1 := I) (T1 := T) rfl ?_
    refine ev_callI rfl rfl rfl (fun v1 I1 T1 hq => ?_) (fun x I1 T1 hq => ?_) hq
    · refine ev_br (p := v1 = 0) (a := 24) (b := 15) (st' := [(.int x3)]) inferInstance rfl rfl (fun hb => ?_) (fun hb => ?_)
      · have hq := hq.1 hb
        refine ev_seq 1 (ip' := 25) (loc' := [some (.ref 46), some (.int x1), some (.int x2), some (.int x3), some (.int x4)]) (st' := [(.int 0), (.int x3)]) (I1 := I1) (T1 := T1) rfl ?_
        refine ev_fg [true, true, true, false, true] (loc' := [some (.ref 46), some (.int x1), some (.int x2), none, some (.int x4)]) rfl ?_
        exact s_M_givenBy_25 (T := T1) hq
      · have hq := hq.2 hb
        refine ev_seq 6 (ip' := 21) (loc' := [some (.ref 46), some (.int x1), some (.int x2), some (.int x3), some (.int x4)]) (st' := [(.int (16 + x4)), (.ref 508), (.int x2), (.int x3)]) (I1 := I1) (T1 := T1) rfl ?_
        obtain ⟨hg, hq⟩ := hq
        refine ev_iald rfl rfl hg ?_
        refine ev_callI rfl rfl rfl (fun v2 I2 T2 hq => ?_) (fun x I1 T1 hq => ?_) hq
        · refine ev_seq 1 (ip' := 25) (loc' := [some (.ref 46), some (.int x1), some (.int x2), some (.int x3), some (.int x4)]) (st' := [(.int v2), (.int x3)]) (I1 := I2) (T1 := T2) rfl ?_
          refine ev_fg [true, true, true, false, true] (loc' := [some (.ref 46), some (.int x1), some (.int x2), none, some (.int x4)]) rfl ?_
          exact s_M_givenBy_25 (T := T2) hq
        · exact hq.elim
    · exact hq.elim
def t_M_givenBy_0 (E : MEnv) (I : II) (T : TT) (Q : QQ) (x1 : Int32) (x2 : Int32) : Prop := t_M_givenBy_4 E I T Q x1 x2 0 0
theorem s_M_givenBy_0 {E : MEnv} {I : II} {T : TT} {Q : QQ} {x1 : Int32} {x2 : Int32} (hq : t_M_givenBy_0 E I T Q x1 x2) : ev E 279 0 [some (.ref 46), some (.int x1), some (.int x2), none, none] [] I T Q := by
  unfold t_M_givenBy_0 at hq
  refine ev_seq 4 (ip' := 4) (loc' := [some (.ref 46), some (.int x1), some (.int x2), some (.int 0), some (.int 0)]) (st' := []) (I1 := I) (T1 := T) rfl ?_
  exact s_M_givenBy_4 (T := T) hq
/-- FeltHarnessModel.goes(II)V -/
def t_M_goes_88 (d9 : Nat) (X9 : Nat × (Nat → Int32)) (I : II) (T : TT) (Q : QQ) : Prop := Q (.inl none) I T
theorem s_M_goes_88 {d9 : Nat} {X9 : Nat × (Nat → Int32)} {I : II} {T : TT} {Q : QQ} (hq : t_M_goes_88 d9 X9 I T Q) : ev (d9 + 1, X9) 148 88 [none, none, none, none, none] [] I T Q := by
  unfold t_M_goes_88 at hq
  exact ev_ret rfl rfl hq
def t_M_goes_80 (d9 : Nat) (X9 : Nat × (Nat → Int32)) (I : II) (T : TT) (Q : QQ) (x2 : Int32) (x3 : Int32) : Prop := (¬ x3 < 0 ∧ x3.toNatClampNeg < 80) ∧ (ev (d9 + 1, X9) 148 2 [some (.ref 46), none, some (.int x2), some (.int (I (428 + x3.toNatClampNeg) 3)), none] [] I T Q)
theorem s_M_goes_80 {d9 : Nat} {X9 : Nat × (Nat → Int32)} {I : II} {T : TT} {Q : QQ} {x2 : Int32} {x3 : Int32} (hq : t_M_goes_80 d9 X9 I T Q x2 x3) : ev (d9 + 1, X9) 148 80 [some (.ref 46), none, some (.int x2), some (.int x3), none] [] I T Q := by
  unfold t_M_goes_80 at hq
  refine ev_seq 3 (ip' := 83) (loc' := [some (.ref 46), none, some (.int x2), some (.int x3), none]) (st' := [(.int x3), (.ref 427)]) (I1 := I) (T1 := T) rfl ?_
  obtain ⟨hg, hq⟩ := hq
  have hr1 := hg
  refine ev_aald rfl rfl hg (RF_427 hg.2) ?_
  refine ev_seq 1 (ip' := 85) (loc' := [some (.ref 46), none, some (.int x2), some (.int x3), none]) (st' := [(.int 3), (.ref (428 + x3.toNatClampNeg))]) (I1 := I) (T1 := T) rfl ?_
  refine ev_iald rfl (KF_427 hr1.2) ⟨by decide, by decide⟩ ?_
  refine ev_seq 2 (ip' := 2) (loc' := [some (.ref 46), none, some (.int x2), some (.int (I (428 + x3.toNatClampNeg) 3)), none]) (st' := []) (I1 := I) (T1 := T) rfl ?_
  exact hq
def t_M_goes_50 (d9 : Nat) (X9 : Nat × (Nat → Int32)) (I : II) (T : TT) (Q : QQ) (x2 : Int32) (x3 : Int32) : Prop := t_M_goes_80 d9 X9 I T Q x2 x3
theorem s_M_goes_50 {d9 : Nat} {X9 : Nat × (Nat → Int32)} {I : II} {T : TT} {Q : QQ} {x2 : Int32} {x3 : Int32} (hq : t_M_goes_50 d9 X9 I T Q x2 x3) : ev (d9 + 1, X9) 148 50 [some (.ref 46), none, some (.int x2), some (.int x3), none] [] I T Q := by
  unfold t_M_goes_50 at hq
  refine ev_seq 1 (ip' := 80) (loc' := [some (.ref 46), none, some (.int x2), some (.int x3), none]) (st' := []) (I1 := I) (T1 := T) rfl ?_
  exact s_M_goes_80 (T := T) hq
def t_M_goes_25 (d9 : Nat) (X9 : Nat × (Nat → Int32)) (I : II) (T : TT) (Q : QQ) (x2 : Int32) (x3 : Int32) (x4 : Int32) : Prop := (¬ x3 < 0 ∧ x3.toNatClampNeg < 80) ∧ (((I (428 + x3.toNatClampNeg) 1) ≤ x4 → (t_M_goes_50 d9 X9 I T Q x2 x3)) ∧ (¬ ((I (428 + x3.toNatClampNeg) 1) ≤ x4) → ((200 ≤ (I 46 38) → (t_M_goes_50 d9 X9 I T Q x2 x3)) ∧ (¬ (200 ≤ (I 46 38)) → ((¬ x3 < 0 ∧ x3.toNatClampNeg < 80) ∧ (ev (d9, X9) 148 0 [some (.ref 46), some (.int (x3 + 1)), some (.int (I (428 + x3.toNatClampNeg) 3)), none, none] [] I T (KV (fun I3 T3 => ev (d9 + 1, X9) 148 25 [some (.ref 46), none, some (.int x2), some (.int x3), some (.int (x4 + 1))] [] I3 T3 Q) (fun x I1 T1 => Q (.inr x) I1 T1))))))))
theorem s_M_goes_25 {d9 : Nat} {X9 : Nat × (Nat → Int32)} {I : II} {T : TT} {Q : QQ} {x2 : Int32} {x3 : Int32} {x4 : Int32} (hq : t_M_goes_25 d9 X9 I T Q x2 x3 x4) : ev (d9 + 1, X9) 148 25 [some (.ref 46), none, some (.int x2), some (.int x3), some (.int x4)] [] I T Q := by
  unfold t_M_goes_25 at hq
  refine ev_seq 4 (ip' := 29) (loc' := [some (.ref 46), none, some (.int x2), some (.int x3), some (.int x4)]) (st' := [(.int x3), (.ref 427), (.int x4)]) (I1 := I) (T1 := T) rfl ?_
  obtain ⟨hg, hq⟩ := hq
  have hr1 := hg
  refine ev_aald rfl rfl hg (RF_427 hg.2) ?_
  refine ev_seq 1 (ip' := 31) (loc' := [some (.ref 46), none, some (.int x2), some (.int x3), some (.int x4)]) (st' := [(.int 1), (.ref (428 + x3.toNatClampNeg)), (.int x4)]) (I1 := I) (T1 := T) rfl ?_
  refine ev_iald rfl (KF_427 hr1.2) ⟨by decide, by decide⟩ ?_
  refine ev_br (p := (I (428 + x3.toNatClampNeg) 1) ≤ x4) (a := 50) (b := 33) (st' := []) inferInstance rfl rfl (fun hb => ?_) (fun hb => ?_)
  · have hq := hq.1 hb
    refine ev_fg [true, true, true, true, false] (loc' := [some (.ref 46), none, some (.int x2), some (.int x3), none]) rfl ?_
    exact s_M_goes_50 (T := T) hq
  · have hq := hq.2 hb
    refine ev_seq 3 (ip' := 36) (loc' := [some (.ref 46), none, some (.int x2), some (.int x3), some (.int x4)]) (st' := [(.int 200), (.int (I 46 38))]) (I1 := I) (T1 := T) rfl ?_
    refine ev_br (p := 200 ≤ (I 46 38)) (a := 50) (b := 37) (st' := []) inferInstance rfl rfl (fun hb => ?_) (fun hb => ?_)
    · have hq := hq.1 hb
      refine ev_fg [true, true, true, true, false] (loc' := [some (.ref 46), none, some (.int x2), some (.int x3), none]) rfl ?_
      exact s_M_goes_50 (T := T) hq
    · have hq := hq.2 hb
      refine ev_seq 7 (ip' := 44) (loc' := [some (.ref 46), none, some (.int x2), some (.int x3), some (.int x4)]) (st' := [(.int x3), (.ref 427), (.int (x3 + 1)), (.ref 46)]) (I1 := I) (T1 := T) rfl ?_
      obtain ⟨hg, hq⟩ := hq
      have hr2 := hg
      refine ev_aald rfl rfl hg (RF_427 hg.2) ?_
      refine ev_seq 1 (ip' := 46) (loc' := [some (.ref 46), none, some (.int x2), some (.int x3), some (.int x4)]) (st' := [(.int 3), (.ref (428 + x3.toNatClampNeg)), (.int (x3 + 1)), (.ref 46)]) (I1 := I) (T1 := T) rfl ?_
      refine ev_iald rfl (KF_427 hr2.2) ⟨by decide, by decide⟩ ?_
      refine ev_callV rfl rfl rfl (fun I3 T3 hq => ?_) (fun x I1 T1 hq => ?_) hq
      · refine ev_seq 2 (ip' := 25) (loc' := [some (.ref 46), none, some (.int x2), some (.int x3), some (.int (x4 + 1))]) (st' := []) (I1 := I3) (T1 := T3) rfl ?_
        exact hq
      · exact ⟨by decide, hq⟩
def t_M_goes_78 (d9 : Nat) (X9 : Nat × (Nat → Int32)) (I : II) (T : TT) (Q : QQ) (x2 : Int32) (x3 : Int32) (y1 : Int32) (y2 : Int32) : Prop := t_M_goes_80 d9 X9 (m_up I 46 35 (y1 + y2)) T Q x2 x3
theorem s_M_goes_78 {d9 : Nat} {X9 : Nat × (Nat → Int32)} {I : II} {T : TT} {Q : QQ} {x2 : Int32} {x3 : Int32} {y1 : Int32} {y2 : Int32} (hq : t_M_goes_78 d9 X9 I T Q x2 x3 y1 y2) : ev (d9 + 1, X9) 148 78 [some (.ref 46), none, some (.int x2), some (.int x3), none] [(.int y2), (.int y1), (.ref 46)] I T Q := by
  unfold t_M_goes_78 at hq
  refine ev_seq 2 (ip' := 80) (loc' := [some (.ref 46), none, some (.int x2), some (.int x3), none]) (st' := []) (I1 := m_up I 46 35 (y1 + y2)) (T1 := T) rfl ?_
  exact s_M_goes_80 (T := T) hq
def t_M_goes_68 (d9 : Nat) (X9 : Nat × (Nat → Int32)) (I : II) (T : TT) (Q : QQ) (x2 : Int32) (x3 : Int32) (x4 : Int32) (y1 : Int32) (y2 : Int32) : Prop := (x4 = 0 → (t_M_goes_78 d9 X9 (m_up I 46 39 (y1 + y2)) T Q x2 x3 ((m_up I 46 39 (y1 + y2)) 46 35) 1)) ∧ (¬ (x4 = 0) → (t_M_goes_78 d9 X9 (m_up I 46 39 (y1 + y2)) T Q x2 x3 ((m_up I 46 39 (y1 + y2)) 46 35) 0))
theorem s_M_goes_68 {d9 : Nat} {X9 : Nat × (Nat → Int32)} {I : II} {T : TT} {Q : QQ} {x2 : Int32} {x3 : Int32} {x4 : Int32} {y1 : Int32} {y2 : Int32} (hq : t_M_goes_68 d9 X9 I T Q x2 x3 x4 y1 y2) : ev (d9 + 1, X9) 148 68 [some (.ref 46), none, some (.int x2), some (.int x3), some (.int x4)] [(.int y2), (.int y1), (.ref 46)] I T Q := by
  unfold t_M_goes_68 at hq
  refine ev_seq 6 (ip' := 74) (loc' := [some (.ref 46), none, some (.int x2), some (.int x3), some (.int x4)]) (st' := [(.int x4), (.int ((m_up I 46 39 (y1 + y2)) 46 35)), (.ref 46)]) (I1 := m_up I 46 39 (y1 + y2)) (T1 := T) rfl ?_
  refine ev_br (p := x4 = 0) (a := 77) (b := 75) (st' := [(.int ((m_up I 46 39 (y1 + y2)) 46 35)), (.ref 46)]) inferInstance rfl rfl (fun hb => ?_) (fun hb => ?_)
  · have hq := hq.1 hb
    refine ev_seq 1 (ip' := 78) (loc' := [some (.ref 46), none, some (.int x2), some (.int x3), some (.int x4)]) (st' := [(.int 1), (.int ((m_up I 46 39 (y1 + y2)) 46 35)), (.ref 46)]) (I1 := m_up I 46 39 (y1 + y2)) (T1 := T) rfl ?_
    refine ev_fg [true, true, true, true, false] (loc' := [some (.ref 46), none, some (.int x2), some (.int x3), none]) rfl ?_
    exact s_M_goes_78 (T := T) hq
  · have hq := hq.2 hb
    refine ev_seq 2 (ip' := 78) (loc' := [some (.ref 46), none, some (.int x2), some (.int x3), some (.int x4)]) (st' := [(.int 0), (.int ((m_up I 46 39 (y1 + y2)) 46 35)), (.ref 46)]) (I1 := m_up I 46 39 (y1 + y2)) (T1 := T) rfl ?_
    refine ev_fg [true, true, true, true, false] (loc' := [some (.ref 46), none, some (.int x2), some (.int x3), none]) rfl ?_
    exact s_M_goes_78 (T := T) hq
def t_M_goes_2 (d9 : Nat) (X9 : Nat × (Nat → Int32)) (I : II) (T : TT) (Q : QQ) (x2 : Int32) (x3 : Int32) : Prop := (x2 ≤ x3 → (t_M_goes_88 d9 X9 I T Q )) ∧ (¬ (x2 ≤ x3) → ((200 ≤ (I 46 38) → (t_M_goes_88 d9 X9 I T Q )) ∧ (¬ (200 ≤ (I 46 38)) → ((¬ x3 < 0 ∧ x3.toNatClampNeg < 80) ∧ ((((m_up I 46 38 ((I 46 38) + 1)) (428 + x3.toNatClampNeg) 0) = 6 → (t_M_goes_25 d9 X9 (m_up I 46 38 ((I 46 38) + 1)) T Q x2 x3 0)) ∧ (¬ (((m_up I 46 38 ((I 46 38) + 1)) (428 + x3.toNatClampNeg) 0) = 6) → ((¬ x3 < 0 ∧ x3.toNatClampNeg < 80) ∧ (ev (d9 + 1, X9) 149 0 [some (.ref 46), some (.ref 508), some (.ref (428 + x3.toNatClampNeg)), none] [] (m_up I 46 38 ((I 46 38) + 1)) T (KI (fun v3 I3 T3 => (v3 = 0 → (t_M_goes_68 d9 X9 I3 T3 Q x2 x3 v3 (I3 46 39) 0)) ∧ (¬ (v3 = 0) → (t_M_goes_68 d9 X9 I3 T3 Q x2 x3 v3 (I3 46 39) 1))) (fun x I1 T1 => Q (.inr x) I1 T1))))))))))
theorem s_M_goes_2 {d9 : Nat} {X9 : Nat × (Nat → Int32)} {I : II} {T : TT} {Q : QQ} {x2 : Int32} {x3 : Int32} (hq : t_M_goes_2 d9 X9 I T Q x2 x3) : ev (d9 + 1, X9) 148 2 [some (.ref 46), none, some (.int x2), some (.int x3), none] [] I T Q := by
  unfold t_M_goes_2 at hq
  refine ev_seq 2 (ip' := 4) (loc' := [some (.ref 46), none, some (.int x2), some (.int x3), none]) (st' := [(.int x2), (.int x3)]) (I1 := I) (T1 := T) rfl ?_
  refine ev_br (p := x2 ≤ x3) (a := 88) (b := 5) (st' := []) inferInstance rfl rfl (fun hb => ?_) (fun hb => ?_)
  · have hq := hq.1 hb
    refine ev_fg [false, true, false, false, true] (loc' := [none, none, none, none, none]) rfl ?_
    exact s_M_goes_88 (T := T) hq
  · have hq := hq.2 hb
    refine ev_seq 3 (ip' := 8) (loc' := [some (.ref 46), none, some (.int x2), some (.int x3), none]) (st' := [(.int 200), (.int (I 46 38))]) (I1 := I) (T1 := T) rfl ?_
    refine ev_br (p := 200 ≤ (I 46 38)) (a := 88) (b := 9) (st' := []) inferInstance rfl rfl (fun hb => ?_) (fun hb => ?_)
    · have hq := hq.1 hb
      refine ev_fg [false, true, false, false, true] (loc' := [none, none, none, none, none]) rfl ?_
      exact s_M_goes_88 (T := T) hq
    · have hq := hq.2 hb
      refine ev_seq 9 (ip' := 18) (loc' := [some (.ref 46), none, some (.int x2), some (.int x3), none]) (st' := [(.int x3), (.ref 427)]) (I1 := m_up I 46 38 ((I 46 38) + 1)) (T1 := T) rfl ?_
      obtain ⟨hg, hq⟩ := hq
      have hr1 := hg
      refine ev_aald rfl rfl hg (RF_427 hg.2) ?_
      refine ev_seq 1 (ip' := 20) (loc' := [some (.ref 46), none, some (.int x2), some (.int x3), none]) (st' := [(.int 0), (.ref (428 + x3.toNatClampNeg))]) (I1 := m_up I 46 38 ((I 46 38) + 1)) (T1 := T) rfl ?_
      refine ev_iald rfl (KF_427 hr1.2) ⟨by decide, by decide⟩ ?_
      refine ev_seq 1 (ip' := 22) (loc' := [some (.ref 46), none, some (.int x2), some (.int x3), none]) (st' := [(.int 6), (.int ((m_up I 46 38 ((I 46 38) + 1)) (428 + x3.toNatClampNeg) 0))]) (I1 := m_up I 46 38 ((I 46 38) + 1)) (T1 := T) rfl ?_
      refine ev_br (p := ((m_up I 46 38 ((I 46 38) + 1)) (428 + x3.toNatClampNeg) 0) = 6) (a := 23) (b := 51) (st' := []) inferInstance rfl rfl (fun hb => ?_) (fun hb => ?_)
      · have hq := hq.1 hb
        refine ev_seq 2 (ip' := 25) (loc' := [some (.ref 46), none, some (.int x2), some (.int x3), some (.int 0)]) (st' := []) (I1 := m_up I 46 38 ((I 46 38) + 1)) (T1 := T) rfl ?_
        exact s_M_goes_25 (T := T) hq
      · have hq := hq.2 hb
        refine ev_seq 6 (ip' := 57) (loc' := [some (.ref 46), none, some (.int x2), some (.int x3), none]) (st' := [(.int x3), (.ref 427), (.ref 508), (.ref 46)]) (I1 := m_up I 46 38 ((I 46 38) + 1)) (T1 := T) rfl ?_
        obtain ⟨hg, hq⟩ := hq
        have hr2 := hg
        refine ev_aald rfl rfl hg (RF_427 hg.2) ?_
        refine ev_callI rfl rfl rfl (fun v3 I3 T3 hq => ?_) (fun x I1 T1 hq => ?_) hq
        · refine ev_seq 5 (ip' := 64) (loc' := [some (.ref 46), none, some (.int x2), some (.int x3), some (.int v3)]) (st' := [(.int v3), (.int (I3 46 39)), (.ref 46)]) (I1 := I3) (T1 := T3) rfl ?_
          refine ev_br (p := v3 = 0) (a := 67) (b := 65) (st' := [(.int (I3 46 39)), (.ref 46)]) inferInstance rfl rfl (fun hb => ?_) (fun hb => ?_)
          · have hq := hq.1 hb
            refine ev_seq 1 (ip' := 68) (loc' := [some (.ref 46), none, some (.int x2), some (.int x3), some (.int v3)]) (st' := [(.int 0), (.int (I3 46 39)), (.ref 46)]) (I1 := I3) (T1 := T3) rfl ?_
            exact s_M_goes_68 (T := T3) hq
          · have hq := hq.2 hb
            refine ev_seq 2 (ip' := 68) (loc' := [some (.ref 46), none, some (.int x2), some (.int x3), some (.int v3)]) (st' := [(.int 1), (.int (I3 46 39)), (.ref 46)]) (I1 := I3) (T1 := T3) rfl ?_
            exact s_M_goes_68 (T := T3) hq
        · exact ⟨by decide, hq⟩
def t_M_goes_0 (d9 : Nat) (X9 : Nat × (Nat → Int32)) (I : II) (T : TT) (Q : QQ) (x1 : Int32) (x2 : Int32) : Prop := t_M_goes_2 d9 X9 I T Q x2 x1
theorem s_M_goes_0 {d9 : Nat} {X9 : Nat × (Nat → Int32)} {I : II} {T : TT} {Q : QQ} {x1 : Int32} {x2 : Int32} (hq : t_M_goes_0 d9 X9 I T Q x1 x2) : ev (d9 + 1, X9) 148 0 [some (.ref 46), some (.int x1), some (.int x2), none, none] [] I T Q := by
  unfold t_M_goes_0 at hq
  refine ev_seq 2 (ip' := 2) (loc' := [some (.ref 46), some (.int x1), some (.int x2), some (.int x1), none]) (st' := []) (I1 := I) (T1 := T) rfl ?_
  refine ev_fg [true, false, true, true, true] (loc' := [some (.ref 46), none, some (.int x2), some (.int x1), none]) rfl ?_
  exact s_M_goes_2 (T := T) hq
/-- FeltHarnessModel.has(II)Z -/
def t_M_has_10 (E : MEnv) (I : II) (T : TT) (Q : QQ) (y0 : Int32) : Prop := (y0 = 0 ∨ y0 = 1) ∧ Q (.inl (some (.int y0))) I T
theorem s_M_has_10 {E : MEnv} {I : II} {T : TT} {Q : QQ} {y0 : Int32} (hq : t_M_has_10 E I T Q y0) : ev E 166 10 [none, none] [(.int y0)] I T Q := by
  unfold t_M_has_10 at hq
  exact ev_retb rfl rfl hq.1 hq.2
def t_M_has_0 (E : MEnv) (I : II) (T : TT) (Q : QQ) (x0 : Int32) (x1 : Int32) : Prop := (((x0 >>> (x1 &&& 31)) &&& 1) = 1 → (t_M_has_10 E I T Q 1)) ∧ (¬ (((x0 >>> (x1 &&& 31)) &&& 1) = 1) → (t_M_has_10 E I T Q 0))
theorem s_M_has_0 {E : MEnv} {I : II} {T : TT} {Q : QQ} {x0 : Int32} {x1 : Int32} (hq : t_M_has_0 E I T Q x0 x1) : ev E 166 0 [some (.int x0), some (.int x1)] [] I T Q := by
  unfold t_M_has_0 at hq
  refine ev_seq 6 (ip' := 6) (loc' := [some (.int x0), some (.int x1)]) (st' := [(.int 1), (.int ((x0 >>> (x1 &&& 31)) &&& 1))]) (I1 := I) (T1 := T) rfl ?_
  refine ev_br (p := ((x0 >>> (x1 &&& 31)) &&& 1) = 1) (a := 7) (b := 9) (st' := []) inferInstance rfl rfl (fun hb => ?_) (fun hb => ?_)
  · have hq := hq.1 hb
    refine ev_seq 2 (ip' := 10) (loc' := [some (.int x0), some (.int x1)]) (st' := [(.int 1)]) (I1 := I) (T1 := T) rfl ?_
    refine ev_fg [false, false] (loc' := [none, none]) rfl ?_
    exact s_M_has_10 (T := T) hq
  · have hq := hq.2 hb
    refine ev_seq 1 (ip' := 10) (loc' := [some (.int x0), some (.int x1)]) (st' := [(.int 0)]) (I1 := I) (T1 := T) rfl ?_
    refine ev_fg [false, false] (loc' := [none, none]) rfl ?_
    exact s_M_has_10 (T := T) hq
/-- FeltHarnessModel.hasBy(IIII)I -/
def t_M_hasBy_15 (E : MEnv) (I : II) (T : TT) (Q : QQ) (y0 : Int32) : Prop := Q (.inl (some (.int y0))) I T
theorem s_M_hasBy_15 {E : MEnv} {I : II} {T : TT} {Q : QQ} {y0 : Int32} (hq : t_M_hasBy_15 E I T Q y0) : ev E 268 15 [none, none, none, none] [(.int y0)] I T Q := by
  unfold t_M_hasBy_15 at hq
  exact ev_ret rfl rfl hq
def t_M_hasBy_0 (E : MEnv) (I : II) (T : TT) (Q : QQ) (x0 : Int32) (x1 : Int32) (x2 : Int32) (x3 : Int32) : Prop := (x0 = x1 → ((x0 = 0 → (t_M_hasBy_15 E I T Q x3)) ∧ (¬ (x0 = 0) → (t_M_hasBy_15 E I T Q (0 - x3))))) ∧ (¬ (x0 = x1) → ((x0 = 0 → (t_M_hasBy_15 E I T Q 0)) ∧ (¬ (x0 = 0) → (t_M_hasBy_15 E I T Q x2))))
theorem s_M_hasBy_0 {E : MEnv} {I : II} {T : TT} {Q : QQ} {x0 : Int32} {x1 : Int32} {x2 : Int32} {x3 : Int32} (hq : t_M_hasBy_0 E I T Q x0 x1 x2 x3) : ev E 268 0 [some (.int x0), some (.int x1), some (.int x2), some (.int x3)] [] I T Q := by
  unfold t_M_hasBy_0 at hq
  refine ev_seq 2 (ip' := 2) (loc' := [some (.int x0), some (.int x1), some (.int x2), some (.int x3)]) (st' := [(.int x1), (.int x0)]) (I1 := I) (T1 := T) rfl ?_
  refine ev_br (p := x0 = x1) (a := 3) (b := 10) (st' := []) inferInstance rfl rfl (fun hb => ?_) (fun hb => ?_)
  · have hq := hq.1 hb
    refine ev_seq 1 (ip' := 4) (loc' := [some (.int x0), some (.int x1), some (.int x2), some (.int x3)]) (st' := [(.int x0)]) (I1 := I) (T1 := T) rfl ?_
    refine ev_br (p := x0 = 0) (a := 5) (b := 7) (st' := []) inferInstance rfl rfl (fun hb => ?_) (fun hb => ?_)
    · have hq := hq.1 hb
      refine ev_seq 2 (ip' := 15) (loc' := [some (.int x0), some (.int x1), some (.int x2), some (.int x3)]) (st' := [(.int x3)]) (I1 := I) (T1 := T) rfl ?_
      refine ev_fg [false, false, false, false] (loc' := [none, none, none, none]) rfl ?_
      exact s_M_hasBy_15 (T := T) hq
    · have hq := hq.2 hb
      refine ev_seq 3 (ip' := 15) (loc' := [some (.int x0), some (.int x1), some (.int x2), some (.int x3)]) (st' := [(.int (0 - x3))]) (I1 := I) (T1 := T) rfl ?_
      refine ev_fg [false, false, false, false] (loc' := [none, none, none, none]) rfl ?_
      exact s_M_hasBy_15 (T := T) hq
  · have hq := hq.2 hb
    refine ev_seq 1 (ip' := 11) (loc' := [some (.int x0), some (.int x1), some (.int x2), some (.int x3)]) (st' := [(.int x0)]) (I1 := I) (T1 := T) rfl ?_
    refine ev_br (p := x0 = 0) (a := 12) (b := 14) (st' := []) inferInstance rfl rfl (fun hb => ?_) (fun hb => ?_)
    · have hq := hq.1 hb
      refine ev_seq 2 (ip' := 15) (loc' := [some (.int x0), some (.int x1), some (.int x2), some (.int x3)]) (st' := [(.int 0)]) (I1 := I) (T1 := T) rfl ?_
      refine ev_fg [false, false, false, false] (loc' := [none, none, none, none]) rfl ?_
      exact s_M_hasBy_15 (T := T) hq
    · have hq := hq.2 hb
      refine ev_seq 1 (ip' := 15) (loc' := [some (.int x0), some (.int x1), some (.int x2), some (.int x3)]) (st' := [(.int x2)]) (I1 := I) (T1 := T) rfl ?_
      refine ev_fg [false, false, false, false] (loc' := [none, none, none, none]) rfl ?_
      exact s_M_hasBy_15 (T := T) hq
/-- FeltHarnessModel.holder([II)I -/
def t_M_holder_508_2 (E : MEnv) (I : II) (T : TT) (Q : QQ) (x2 : Int32) (x3 : Int32) : Prop := ((I 50 0) ≤ x3 → (Q (.inl (some (.int (-1)))) I T)) ∧ (¬ ((I 50 0) ≤ x3) → ((¬ (0 + x3) < 0 ∧ (0 + x3).toNatClampNeg < 29) ∧ (((I 508 (0 + x3).toNatClampNeg) = x2 → (Q (.inl (some (.int x3))) I T)) ∧ (¬ ((I 508 (0 + x3).toNatClampNeg) = x2) → (ev E 151 2 [some (.ref 46), some (.ref 508), some (.int x2), some (.int (x3 + 1))] [] I T Q)))))
theorem s_M_holder_508_2 {E : MEnv} {I : II} {T : TT} {Q : QQ} {x2 : Int32} {x3 : Int32} (hq : t_M_holder_508_2 E I T Q x2 x3) : ev E 151 2 [some (.ref 46), some (.ref 508), some (.int x2), some (.int x3)] [] I T Q := by
  unfold t_M_holder_508_2 at hq
  refine ev_seq 5 (ip' := 7) (loc' := [some (.ref 46), some (.ref 508), some (.int x2), some (.int x3)]) (st' := [(.int (I 50 0)), (.int x3)]) (I1 := I) (T1 := T) rfl ?_
  refine ev_br (p := (I 50 0) ≤ x3) (a := 19) (b := 8) (st' := []) inferInstance rfl rfl (fun hb => ?_) (fun hb => ?_)
  · have hq := hq.1 hb
    refine ev_seq 1 (ip' := 20) (loc' := [some (.ref 46), some (.ref 508), some (.int x2), some (.int x3)]) (st' := [(.int (-1))]) (I1 := I) (T1 := T) rfl ?_
    exact ev_ret rfl rfl hq
  · have hq := hq.2 hb
    refine ev_seq 4 (ip' := 12) (loc' := [some (.ref 46), some (.ref 508), some (.int x2), some (.int x3)]) (st' := [(.int (0 + x3)), (.ref 508)]) (I1 := I) (T1 := T) rfl ?_
    obtain ⟨hg, hq⟩ := hq
    refine ev_iald rfl rfl hg ?_
    refine ev_seq 1 (ip' := 14) (loc' := [some (.ref 46), some (.ref 508), some (.int x2), some (.int x3)]) (st' := [(.int x2), (.int (I 508 (0 + x3).toNatClampNeg))]) (I1 := I) (T1 := T) rfl ?_
    refine ev_br (p := (I 508 (0 + x3).toNatClampNeg) = x2) (a := 15) (b := 17) (st' := []) inferInstance rfl rfl (fun hb => ?_) (fun hb => ?_)
    · have hq := hq.1 hb
      refine ev_seq 1 (ip' := 16) (loc' := [some (.ref 46), some (.ref 508), some (.int x2), some (.int x3)]) (st' := [(.int x3)]) (I1 := I) (T1 := T) rfl ?_
      exact ev_ret rfl rfl hq
    · have hq := hq.2 hb
      refine ev_seq 2 (ip' := 2) (loc' := [some (.ref 46), some (.ref 508), some (.int x2), some (.int (x3 + 1))]) (st' := []) (I1 := I) (T1 := T) rfl ?_
      exact hq
def t_M_holder_508_0 (E : MEnv) (I : II) (T : TT) (Q : QQ) (x2 : Int32) : Prop := t_M_holder_508_2 E I T Q x2 0
theorem s_M_holder_508_0 {E : MEnv} {I : II} {T : TT} {Q : QQ} {x2 : Int32} (hq : t_M_holder_508_0 E I T Q x2) : ev E 151 0 [some (.ref 46), some (.ref 508), some (.int x2), none] [] I T Q := by
  unfold t_M_holder_508_0 at hq
  refine ev_seq 2 (ip' := 2) (loc' := [some (.ref 46), some (.ref 508), some (.int x2), some (.int 0)]) (st' := []) (I1 := I) (T1 := T) rfl ?_
  exact s_M_holder_508_2 (T := T) hq
/-- FeltHarnessModel.holder([II)I -/
def t_M_holder_509_2 (E : MEnv) (I : II) (T : TT) (Q : QQ) (x2 : Int32) (x3 : Int32) : Prop := ((I 50 0) ≤ x3 → (Q (.inl (some (.int (-1)))) I T)) ∧ (¬ ((I 50 0) ≤ x3) → ((¬ (0 + x3) < 0 ∧ (0 + x3).toNatClampNeg < 29) ∧ (((I 509 (0 + x3).toNatClampNeg) = x2 → (Q (.inl (some (.int x3))) I T)) ∧ (¬ ((I 509 (0 + x3).toNatClampNeg) = x2) → (ev E 151 2 [some (.ref 46), some (.ref 509), some (.int x2), some (.int (x3 + 1))] [] I T Q)))))
theorem s_M_holder_509_2 {E : MEnv} {I : II} {T : TT} {Q : QQ} {x2 : Int32} {x3 : Int32} (hq : t_M_holder_509_2 E I T Q x2 x3) : ev E 151 2 [some (.ref 46), some (.ref 509), some (.int x2), some (.int x3)] [] I T Q := by
  unfold t_M_holder_509_2 at hq
  refine ev_seq 5 (ip' := 7) (loc' := [some (.ref 46), some (.ref 509), some (.int x2), some (.int x3)]) (st' := [(.int (I 50 0)), (.int x3)]) (I1 := I) (T1 := T) rfl ?_
  refine ev_br (p := (I 50 0) ≤ x3) (a := 19) (b := 8) (st' := []) inferInstance rfl rfl (fun hb => ?_) (fun hb => ?_)
  · have hq := hq.1 hb
    refine ev_seq 1 (ip' := 20) (loc' := [some (.ref 46), some (.ref 509), some (.int x2), some (.int x3)]) (st' := [(.int (-1))]) (I1 := I) (T1 := T) rfl ?_
    exact ev_ret rfl rfl hq
  · have hq := hq.2 hb
    refine ev_seq 4 (ip' := 12) (loc' := [some (.ref 46), some (.ref 509), some (.int x2), some (.int x3)]) (st' := [(.int (0 + x3)), (.ref 509)]) (I1 := I) (T1 := T) rfl ?_
    obtain ⟨hg, hq⟩ := hq
    refine ev_iald rfl rfl hg ?_
    refine ev_seq 1 (ip' := 14) (loc' := [some (.ref 46), some (.ref 509), some (.int x2), some (.int x3)]) (st' := [(.int x2), (.int (I 509 (0 + x3).toNatClampNeg))]) (I1 := I) (T1 := T) rfl ?_
    refine ev_br (p := (I 509 (0 + x3).toNatClampNeg) = x2) (a := 15) (b := 17) (st' := []) inferInstance rfl rfl (fun hb => ?_) (fun hb => ?_)
    · have hq := hq.1 hb
      refine ev_seq 1 (ip' := 16) (loc' := [some (.ref 46), some (.ref 509), some (.int x2), some (.int x3)]) (st' := [(.int x3)]) (I1 := I) (T1 := T) rfl ?_
      exact ev_ret rfl rfl hq
    · have hq := hq.2 hb
      refine ev_seq 2 (ip' := 2) (loc' := [some (.ref 46), some (.ref 509), some (.int x2), some (.int (x3 + 1))]) (st' := []) (I1 := I) (T1 := T) rfl ?_
      exact hq
def t_M_holder_509_0 (E : MEnv) (I : II) (T : TT) (Q : QQ) (x2 : Int32) : Prop := t_M_holder_509_2 E I T Q x2 0
theorem s_M_holder_509_0 {E : MEnv} {I : II} {T : TT} {Q : QQ} {x2 : Int32} (hq : t_M_holder_509_0 E I T Q x2) : ev E 151 0 [some (.ref 46), some (.ref 509), some (.int x2), none] [] I T Q := by
  unfold t_M_holder_509_0 at hq
  refine ev_seq 2 (ip' := 2) (loc' := [some (.ref 46), some (.ref 509), some (.int x2), some (.int 0)]) (st' := []) (I1 := I) (T1 := T) rfl ?_
  exact s_M_holder_509_2 (T := T) hq
/-- FeltHarnessModel.house(I)I -/
def t_M_house_37 (E : MEnv) (I : II) (T : TT) (Q : QQ) : Prop := ((I 46 5) = 0 → (ev E 19 0 [some (.ref 46), none] [] (m_up I 46 3 (-1)) T (KV (fun I1 T1 => Q (.inl (some (.int (I1 50 0)))) I1 T1) (fun x I1 T1 => Q (.inr x) I1 T1)))) ∧ (¬ ((I 46 5) = 0) → (ev E 75 0 [some (.ref 46)] [] I T (KI (fun v2 I2 T2 => Q (.inl (some (.int v2))) I2 T2) (fun x I1 T1 => Q (.inr x) I1 T1))))
theorem s_M_house_37 {E : MEnv} {I : II} {T : TT} {Q : QQ} (hq : t_M_house_37 E I T Q) : ev E 56 37 [some (.ref 46), none] [] I T Q := by
  unfold t_M_house_37 at hq
  refine ev_seq 2 (ip' := 39) (loc' := [some (.ref 46), none]) (st' := [(.int (I 46 5))]) (I1 := I) (T1 := T) rfl ?_
  refine ev_br (p := (I 46 5) = 0) (a := 43) (b := 40) (st' := []) inferInstance rfl rfl (fun hb => ?_) (fun hb => ?_)
  · have hq := hq.1 hb
    refine ev_seq 4 (ip' := 47) (loc' := [some (.ref 46), none]) (st' := [(.ref 46)]) (I1 := m_up I 46 3 (-1)) (T1 := T) rfl ?_
    refine ev_callV rfl rfl rfl (fun I1 T1 hq => ?_) (fun x I1 T1 hq => ?_) hq
    · refine ev_seq 4 (ip' := 52) (loc' := [some (.ref 46), none]) (st' := [(.int (I1 50 0))]) (I1 := I1) (T1 := T1) rfl ?_
      exact ev_ret rfl rfl hq
    · exact ⟨by decide, hq⟩
  · have hq := hq.2 hb
    refine ev_seq 1 (ip' := 41) (loc' := [some (.ref 46), none]) (st' := [(.ref 46)]) (I1 := I) (T1 := T) rfl ?_
    refine ev_callI rfl rfl rfl (fun v2 I2 T2 hq => ?_) (fun x I1 T1 hq => ?_) hq
    · exact ev_ret rfl rfl hq
    · exact ⟨by decide, hq⟩
def t_M_house_24 (E : MEnv) (I : II) (T : TT) (Q : QQ) : Prop := ((I 46 5) = 0 → (((I 46 2) ≤ (I 46 4) → (t_M_house_37 E I T Q )) ∧ (¬ ((I 46 2) ≤ (I 46 4)) → (ev E 62 0 [some (.ref 46), none] [] I T (KV (fun I1 T1 => ev E 60 0 [some (.ref 46)] [] I1 T1 (KV (fun I2 T2 => ev E 56 24 [some (.ref 46), none] [] I2 T2 Q) (fun x I1 T1 => Q (.inr x) I1 T1))) (fun x I1 T1 => Q (.inr x) I1 T1)))))) ∧ (¬ ((I 46 5) = 0) → (t_M_house_37 E I T Q ))
theorem s_M_house_24 {E : MEnv} {I : II} {T : TT} {Q : QQ} (hq : t_M_house_24 E I T Q) : ev E 56 24 [some (.ref 46), none] [] I T Q := by
  unfold t_M_house_24 at hq
  refine ev_seq 2 (ip' := 26) (loc' := [some (.ref 46), none]) (st' := [(.int (I 46 5))]) (I1 := I) (T1 := T) rfl ?_
  refine ev_br (p := (I 46 5) = 0) (a := 27) (b := 37) (st' := []) inferInstance rfl rfl (fun hb => ?_) (fun hb => ?_)
  · have hq := hq.1 hb
    refine ev_seq 4 (ip' := 31) (loc' := [some (.ref 46), none]) (st' := [(.int (I 46 2)), (.int (I 46 4))]) (I1 := I) (T1 := T) rfl ?_
    refine ev_br (p := (I 46 2) ≤ (I 46 4)) (a := 37) (b := 32) (st' := []) inferInstance rfl rfl (fun hb => ?_) (fun hb => ?_)
    · have hq := hq.1 hb
      exact s_M_house_37 (T := T) hq
    · have hq := hq.2 hb
      refine ev_seq 1 (ip' := 33) (loc' := [some (.ref 46), none]) (st' := [(.ref 46)]) (I1 := I) (T1 := T) rfl ?_
      refine ev_callV rfl rfl rfl (fun I1 T1 hq => ?_) (fun x I1 T1 hq => ?_) hq
      · refine ev_seq 1 (ip' := 35) (loc' := [some (.ref 46), none]) (st' := [(.ref 46)]) (I1 := I1) (T1 := T1) rfl ?_
        refine ev_callV rfl rfl rfl (fun I2 T2 hq => ?_) (fun x I1 T1 hq => ?_) hq
        · refine ev_seq 1 (ip' := 24) (loc' := [some (.ref 46), none]) (st' := []) (I1 := I2) (T1 := T2) rfl ?_
          exact hq
        · exact ⟨by decide, hq⟩
      · exact ⟨by decide, hq⟩
  · have hq := hq.2 hb
    exact s_M_house_37 (T := T) hq
def t_M_house_13 (E : MEnv) (I : II) (T : TT) (Q : QQ) (x1 : Int32) (y1 : Int32) : Prop := ev E 58 0 [some (.ref 46), some (.int y1), some (.int 1), some (.int 1)] [] I T (KI (fun v1 I1 T1 => (v1 = 0 → (ev E 59 0 [some (.ref 46), some (.int x1)] [] I1 T1 (KV (fun I2 T2 => ev E 18 0 [some (.ref 46), none] [] I2 T2 (KV (fun I3 T3 => t_M_house_24 E I3 T3 Q ) (fun x I1 T1 => Q (.inr x) I1 T1))) (fun x I1 T1 => Q (.inr x) I1 T1)))) ∧ (¬ (v1 = 0) → (Q (.inl (some (.int 0))) I1 T1))) (fun x I1 T1 => Q (.inr x) I1 T1))
theorem s_M_house_13 {E : MEnv} {I : II} {T : TT} {Q : QQ} {x1 : Int32} {y1 : Int32} (hq : t_M_house_13 E I T Q x1 y1) : ev E 56 13 [some (.ref 46), some (.int x1)] [(.int y1), (.ref 46)] I T Q := by
  unfold t_M_house_13 at hq
  refine ev_seq 2 (ip' := 15) (loc' := [some (.ref 46), some (.int x1)]) (st' := [(.int 1), (.int 1), (.int y1), (.ref 46)]) (I1 := I) (T1 := T) rfl ?_
  refine ev_callI rfl rfl rfl (fun v1 I1 T1 hq => ?_) (fun x I1 T1 hq => ?_) hq
  · refine ev_br (p := v1 = 0) (a := 19) (b := 17) (st' := []) inferInstance rfl rfl (fun hb => ?_) (fun hb => ?_)
    · have hq := hq.1 hb
      refine ev_seq 2 (ip' := 21) (loc' := [some (.ref 46), some (.int x1)]) (st' := [(.int x1), (.ref 46)]) (I1 := I1) (T1 := T1) rfl ?_
      refine ev_callV rfl rfl rfl (fun I2 T2 hq => ?_) (fun x I1 T1 hq => ?_) hq
      · refine ev_seq 1 (ip' := 23) (loc' := [some (.ref 46), some (.int x1)]) (st' := [(.ref 46)]) (I1 := I2) (T1 := T2) rfl ?_
        refine ev_callV rfl rfl rfl (fun I3 T3 hq => ?_) (fun x I1 T1 hq => ?_) hq
        · refine ev_fg [true, false] (loc' := [some (.ref 46), none]) rfl ?_
          exact s_M_house_24 (T := T3) hq
        · exact ⟨by decide, hq⟩
      · exact ⟨by decide, hq⟩
    · have hq := hq.2 hb
      refine ev_seq 1 (ip' := 18) (loc' := [some (.ref 46), some (.int x1)]) (st' := [(.int 0)]) (I1 := I1) (T1 := T1) rfl ?_
      exact ev_ret rfl rfl hq
  · exact ⟨by decide, hq⟩
def t_M_house_0 (E : MEnv) (I : II) (T : TT) (Q : QQ) (x1 : Int32) : Prop := ev E 57 0 [some (.int x1), some (.int 0), some (.int ((m_up I 46 0 0) 46 1))] [] (m_up I 46 0 0) T (KI (fun v1 I1 T1 => (v1 = 0 → (t_M_house_13 E I1 T1 Q x1 1)) ∧ (¬ (v1 = 0) → (t_M_house_13 E I1 T1 Q x1 0))) (fun _ _ _ => False))
theorem s_M_house_0 {E : MEnv} {I : II} {T : TT} {Q : QQ} {x1 : Int32} (hq : t_M_house_0 E I T Q x1) : ev E 56 0 [some (.ref 46), some (.int x1)] [] I T Q := by
  unfold t_M_house_0 at hq
  refine ev_seq 8 (ip' := 8) (loc' := [some (.ref 46), some (.int x1)]) (st' := [(.int ((m_up I 46 0 0) 46 1)), (.int 0), (.int x1), (.ref 46)]) (I1 := m_up I 46 0 0) (T1 := T) rfl ?_
  refine ev_callI rfl rfl rfl (fun v1 I1 T1 hq => ?_) (fun x I1 T1 hq => ?_) hq
  · refine ev_br (p := v1 = 0) (a := 10) (b := 12) (st' := [(.ref 46)]) inferInstance rfl rfl (fun hb => ?_) (fun hb => ?_)
    · have hq := hq.1 hb
      refine ev_seq 2 (ip' := 13) (loc' := [some (.ref 46), some (.int x1)]) (st' := [(.int 1), (.ref 46)]) (I1 := I1) (T1 := T1) rfl ?_
      exact s_M_house_13 (T := T1) hq
    · have hq := hq.2 hb
      refine ev_seq 1 (ip' := 13) (loc' := [some (.ref 46), some (.int x1)]) (st' := [(.int 0), (.ref 46)]) (I1 := I1) (T1 := T1) rfl ?_
      exact s_M_house_13 (T := T1) hq
  · exact hq.elim
/-- FeltHarnessModel.image()I -/
def t_M_image_0 (E : MEnv) (I : II) (T : TT) (Q : QQ) : Prop := (((m_up I 46 0 0) 46 36) = 3 → (Q (.inl (some (.int (-1)))) (m_up I 46 0 0) T)) ∧ (¬ (((m_up I 46 0 0) 46 36) = 3) → ((¬ ((m_up I 46 0 0) 46 36) < 0 ∧ ((m_up I 46 0 0) 46 36).toNatClampNeg < 3) ∧ (ev E 327 0 [some (.ref 46), some (.ref (528 + ((m_up I 46 0 0) 46 36).toNatClampNeg)), some (.int 0), none, none] [] (m_up I 46 0 0) T (KV (fun I2 T2 => Q (.inl (some (.int ((m_up I2 46 36 ((I2 46 36) + 1)) 46 36)))) (m_up I2 46 36 ((I2 46 36) + 1)) T2) (fun x I1 T1 => Q (.inr x) I1 T1)))))
theorem s_M_image_0 {E : MEnv} {I : II} {T : TT} {Q : QQ} (hq : t_M_image_0 E I T Q) : ev E 326 0 [some (.ref 46)] [] I T Q := by
  unfold t_M_image_0 at hq
  refine ev_seq 6 (ip' := 6) (loc' := [some (.ref 46)]) (st' := [(.int 3), (.int ((m_up I 46 0 0) 46 36))]) (I1 := m_up I 46 0 0) (T1 := T) rfl ?_
  refine ev_br (p := ((m_up I 46 0 0) 46 36) = 3) (a := 7) (b := 9) (st' := []) inferInstance rfl rfl (fun hb => ?_) (fun hb => ?_)
  · have hq := hq.1 hb
    refine ev_seq 1 (ip' := 8) (loc' := [some (.ref 46)]) (st' := [(.int (-1))]) (I1 := m_up I 46 0 0) (T1 := T) rfl ?_
    exact ev_ret rfl rfl hq
  · have hq := hq.2 hb
    refine ev_seq 5 (ip' := 14) (loc' := [some (.ref 46)]) (st' := [(.int ((m_up I 46 0 0) 46 36)), (.ref 527), (.ref 46)]) (I1 := m_up I 46 0 0) (T1 := T) rfl ?_
    obtain ⟨hg, hq⟩ := hq
    have hr1 := hg
    refine ev_aald rfl rfl hg (RF_527 hg.2) ?_
    refine ev_seq 1 (ip' := 16) (loc' := [some (.ref 46)]) (st' := [(.int 0), (.ref (528 + ((m_up I 46 0 0) 46 36).toNatClampNeg)), (.ref 46)]) (I1 := m_up I 46 0 0) (T1 := T) rfl ?_
    refine ev_callV rfl rfl rfl (fun I2 T2 hq => ?_) (fun x I1 T1 hq => ?_) hq
    · refine ev_seq 8 (ip' := 25) (loc' := [some (.ref 46)]) (st' := [(.int ((m_up I2 46 36 ((I2 46 36) + 1)) 46 36))]) (I1 := m_up I2 46 36 ((I2 46 36) + 1)) (T1 := T2) rfl ?_
      exact ev_ret rfl rfl hq
    · exact ⟨by decide, hq⟩
/-- FeltHarnessModel.in(III)Z -/
def t_M_in_9 (E : MEnv) (I : II) (T : TT) (Q : QQ) (y0 : Int32) : Prop := (y0 = 0 ∨ y0 = 1) ∧ Q (.inl (some (.int y0))) I T
theorem s_M_in_9 {E : MEnv} {I : II} {T : TT} {Q : QQ} {y0 : Int32} (hq : t_M_in_9 E I T Q y0) : ev E 57 9 [none, none, none] [(.int y0)] I T Q := by
  unfold t_M_in_9 at hq
  exact ev_retb rfl rfl hq.1 hq.2
def t_M_in_8 (E : MEnv) (I : II) (T : TT) (Q : QQ) : Prop := t_M_in_9 E I T Q 0
theorem s_M_in_8 {E : MEnv} {I : II} {T : TT} {Q : QQ} (hq : t_M_in_8 E I T Q) : ev E 57 8 [none, none, none] [] I T Q := by
  unfold t_M_in_8 at hq
  refine ev_seq 1 (ip' := 9) (loc' := [none, none, none]) (st' := [(.int 0)]) (I1 := I) (T1 := T) rfl ?_
  exact s_M_in_9 (T := T) hq
def t_M_in_0 (E : MEnv) (I : II) (T : TT) (Q : QQ) (x0 : Int32) (x1 : Int32) (x2 : Int32) : Prop := (x0 < x1 → (t_M_in_8 E I T Q )) ∧ (¬ (x0 < x1) → ((x2 < x0 → (t_M_in_8 E I T Q )) ∧ (¬ (x2 < x0) → (t_M_in_9 E I T Q 1))))
theorem s_M_in_0 {E : MEnv} {I : II} {T : TT} {Q : QQ} {x0 : Int32} {x1 : Int32} {x2 : Int32} (hq : t_M_in_0 E I T Q x0 x1 x2) : ev E 57 0 [some (.int x0), some (.int x1), some (.int x2)] [] I T Q := by
  unfold t_M_in_0 at hq
  refine ev_seq 2 (ip' := 2) (loc' := [some (.int x0), some (.int x1), some (.int x2)]) (st' := [(.int x1), (.int x0)]) (I1 := I) (T1 := T) rfl ?_
  refine ev_br (p := x0 < x1) (a := 8) (b := 3) (st' := []) inferInstance rfl rfl (fun hb => ?_) (fun hb => ?_)
  · have hq := hq.1 hb
    refine ev_fg [false, false, false] (loc' := [none, none, none]) rfl ?_
    exact s_M_in_8 (T := T) hq
  · have hq := hq.2 hb
    refine ev_seq 2 (ip' := 5) (loc' := [some (.int x0), some (.int x1), some (.int x2)]) (st' := [(.int x2), (.int x0)]) (I1 := I) (T1 := T) rfl ?_
    refine ev_br (p := x2 < x0) (a := 8) (b := 6) (st' := []) inferInstance rfl rfl (fun hb => ?_) (fun hb => ?_)
    · have hq := hq.1 hb
      refine ev_fg [false, false, false] (loc' := [none, none, none]) rfl ?_
      exact s_M_in_8 (T := T) hq
    · have hq := hq.2 hb
      refine ev_seq 2 (ip' := 9) (loc' := [some (.int x0), some (.int x1), some (.int x2)]) (st' := [(.int 1)]) (I1 := I) (T1 := T) rfl ?_
      refine ev_fg [false, false, false] (loc' := [none, none, none]) rfl ?_
      exact s_M_in_9 (T := T) hq
/-- FeltHarnessModel.isBest(IIII)Z -/
def t_M_isBest_16 (E : MEnv) (I : II) (T : TT) (Q : QQ) (y0 : Int32) : Prop := (y0 = 0 ∨ y0 = 1) ∧ Q (.inl (some (.int y0))) I T
theorem s_M_isBest_16 {E : MEnv} {I : II} {T : TT} {Q : QQ} {y0 : Int32} (hq : t_M_isBest_16 E I T Q y0) : ev E 267 16 [none, none, none, none] [(.int y0)] I T Q := by
  unfold t_M_isBest_16 at hq
  exact ev_retb rfl rfl hq.1 hq.2
def t_M_isBest_0 (E : MEnv) (I : II) (T : TT) (Q : QQ) (x0 : Int32) (x1 : Int32) (x2 : Int32) (x3 : Int32) : Prop := ev E 268 0 [some (.int x0), some (.int x1), some (.int x2), some (.int x3)] [] I T (KI (fun v1 I1 T1 => ev E 268 0 [some (.int (1 - x0)), some (.int x1), some (.int x2), some (.int x3)] [] I1 T1 (KI (fun v2 I2 T2 => (v1 < v2 → (t_M_isBest_16 E I2 T2 Q 0)) ∧ (¬ (v1 < v2) → (t_M_isBest_16 E I2 T2 Q 1))) (fun _ _ _ => False))) (fun _ _ _ => False))
theorem s_M_isBest_0 {E : MEnv} {I : II} {T : TT} {Q : QQ} {x0 : Int32} {x1 : Int32} {x2 : Int32} {x3 : Int32} (hq : t_M_isBest_0 E I T Q x0 x1 x2 x3) : ev E 267 0 [some (.int x0), some (.int x1), some (.int x2), some (.int x3)] [] I T Q := by
  unfold t_M_isBest_0 at hq
  refine ev_seq 4 (ip' := 4) (loc' := [some (.int x0), some (.int x1), some (.int x2), some (.int x3)]) (st' := [(.int x3), (.int x2), (.int x1), (.int x0)]) (I1 := I) (T1 := T) rfl ?_
  refine ev_callI rfl rfl rfl (fun v1 I1 T1 hq => ?_) (fun x I1 T1 hq => ?_) hq
  · refine ev_seq 6 (ip' := 11) (loc' := [some (.int x0), some (.int x1), some (.int x2), some (.int x3)]) (st' := [(.int x3), (.int x2), (.int x1), (.int (1 - x0)), (.int v1)]) (I1 := I1) (T1 := T1) rfl ?_
    refine ev_callI rfl rfl rfl (fun v2 I2 T2 hq => ?_) (fun x I1 T1 hq => ?_) hq
    · refine ev_br (p := v1 < v2) (a := 15) (b := 13) (st' := []) inferInstance rfl rfl (fun hb => ?_) (fun hb => ?_)
      · have hq := hq.1 hb
        refine ev_seq 1 (ip' := 16) (loc' := [some (.int x0), some (.int x1), some (.int x2), some (.int x3)]) (st' := [(.int 0)]) (I1 := I2) (T1 := T2) rfl ?_
        refine ev_fg [false, false, false, false] (loc' := [none, none, none, none]) rfl ?_
        exact s_M_isBest_16 (T := T2) hq
      · have hq := hq.2 hb
        refine ev_seq 2 (ip' := 16) (loc' := [some (.int x0), some (.int x1), some (.int x2), some (.int x3)]) (st' := [(.int 1)]) (I1 := I2) (T1 := T2) rfl ?_
        refine ev_fg [false, false, false, false] (loc' := [none, none, none, none]) rfl ?_
        exact s_M_isBest_16 (T := T2) hq
    · exact hq.elim
  · exact hq.elim
/-- FeltHarnessModel.isDigit(I)Z -/
def t_M_isDigit_9 (E : MEnv) (I : II) (T : TT) (Q : QQ) (y0 : Int32) : Prop := (y0 = 0 ∨ y0 = 1) ∧ Q (.inl (some (.int y0))) I T
theorem s_M_isDigit_9 {E : MEnv} {I : II} {T : TT} {Q : QQ} {y0 : Int32} (hq : t_M_isDigit_9 E I T Q y0) : ev E 72 9 [none] [(.int y0)] I T Q := by
  unfold t_M_isDigit_9 at hq
  exact ev_retb rfl rfl hq.1 hq.2
def t_M_isDigit_8 (E : MEnv) (I : II) (T : TT) (Q : QQ) : Prop := t_M_isDigit_9 E I T Q 0
theorem s_M_isDigit_8 {E : MEnv} {I : II} {T : TT} {Q : QQ} (hq : t_M_isDigit_8 E I T Q) : ev E 72 8 [none] [] I T Q := by
  unfold t_M_isDigit_8 at hq
  refine ev_seq 1 (ip' := 9) (loc' := [none]) (st' := [(.int 0)]) (I1 := I) (T1 := T) rfl ?_
  exact s_M_isDigit_9 (T := T) hq
def t_M_isDigit_0 (E : MEnv) (I : II) (T : TT) (Q : QQ) (x0 : Int32) : Prop := (x0 < 48 → (t_M_isDigit_8 E I T Q )) ∧ (¬ (x0 < 48) → ((57 < x0 → (t_M_isDigit_8 E I T Q )) ∧ (¬ (57 < x0) → (t_M_isDigit_9 E I T Q 1))))
theorem s_M_isDigit_0 {E : MEnv} {I : II} {T : TT} {Q : QQ} {x0 : Int32} (hq : t_M_isDigit_0 E I T Q x0) : ev E 72 0 [some (.int x0)] [] I T Q := by
  unfold t_M_isDigit_0 at hq
  refine ev_seq 2 (ip' := 2) (loc' := [some (.int x0)]) (st' := [(.int 48), (.int x0)]) (I1 := I) (T1 := T) rfl ?_
  refine ev_br (p := x0 < 48) (a := 8) (b := 3) (st' := []) inferInstance rfl rfl (fun hb => ?_) (fun hb => ?_)
  · have hq := hq.1 hb
    refine ev_fg [false] (loc' := [none]) rfl ?_
    exact s_M_isDigit_8 (T := T) hq
  · have hq := hq.2 hb
    refine ev_seq 2 (ip' := 5) (loc' := [some (.int x0)]) (st' := [(.int 57), (.int x0)]) (I1 := I) (T1 := T) rfl ?_
    refine ev_br (p := 57 < x0) (a := 8) (b := 6) (st' := []) inferInstance rfl rfl (fun hb => ?_) (fun hb => ?_)
    · have hq := hq.1 hb
      refine ev_fg [false] (loc' := [none]) rfl ?_
      exact s_M_isDigit_8 (T := T) hq
    · have hq := hq.2 hb
      refine ev_seq 2 (ip' := 9) (loc' := [some (.int x0)]) (st' := [(.int 1)]) (I1 := I) (T1 := T) rfl ?_
      refine ev_fg [false] (loc' := [none]) rfl ?_
      exact s_M_isDigit_9 (T := T) hq
/-- FeltHarnessModel.isFeeling(I)Z -/
def t_M_isFeeling_0 (E : MEnv) (I : II) (T : TT) (Q : QQ) (x1 : Int32) : Prop := ev E 57 0 [some (.int x1), some (.int 0), some (.int ((I 50 0) - 1))] [] I T (KI (fun v1 I1 T1 => (v1 = 0 ∨ v1 = 1) ∧ Q (.inl (some (.int v1))) I1 T1) (fun _ _ _ => False))
theorem s_M_isFeeling_0 {E : MEnv} {I : II} {T : TT} {Q : QQ} {x1 : Int32} (hq : t_M_isFeeling_0 E I T Q x1) : ev E 190 0 [some (.ref 46), some (.int x1)] [] I T Q := by
  unfold t_M_isFeeling_0 at hq
  refine ev_seq 8 (ip' := 8) (loc' := [some (.ref 46), some (.int x1)]) (st' := [(.int ((I 50 0) - 1)), (.int 0), (.int x1)]) (I1 := I) (T1 := T) rfl ?_
  refine ev_callI rfl rfl rfl (fun v1 I1 T1 hq => ?_) (fun x I1 T1 hq => ?_) hq
  · exact ev_retb rfl rfl hq.1 hq.2
  · exact hq.elim
/-- FeltHarnessModel.isPlace(I)Z -/
def t_M_isPlace_0 (E : MEnv) (I : II) (T : TT) (Q : QQ) (x0 : Int32) : Prop := ev E 57 0 [some (.int x0), some (.int 0), some (.int 3)] [] I T (KI (fun v1 I1 T1 => (v1 = 0 ∨ v1 = 1) ∧ Q (.inl (some (.int v1))) I1 T1) (fun _ _ _ => False))
theorem s_M_isPlace_0 {E : MEnv} {I : II} {T : TT} {Q : QQ} {x0 : Int32} (hq : t_M_isPlace_0 E I T Q x0) : ev E 200 0 [some (.int x0)] [] I T Q := by
  unfold t_M_isPlace_0 at hq
  refine ev_seq 3 (ip' := 3) (loc' := [some (.int x0)]) (st' := [(.int 3), (.int 0), (.int x0)]) (I1 := I) (T1 := T) rfl ?_
  refine ev_callI rfl rfl rfl (fun v1 I1 T1 hq => ?_) (fun x I1 T1 hq => ?_) hq
  · exact ev_retb rfl rfl hq.1 hq.2
  · exact hq.elim
/-- FeltHarnessModel.isSeason(II)Z -/
def t_M_isSeason_13 (E : MEnv) (I : II) (T : TT) (Q : QQ) (y0 : Int32) : Prop := (y0 = 0 ∨ y0 = 1) ∧ Q (.inl (some (.int y0))) I T
theorem s_M_isSeason_13 {E : MEnv} {I : II} {T : TT} {Q : QQ} {y0 : Int32} (hq : t_M_isSeason_13 E I T Q y0) : ev E 318 13 [none, none] [(.int y0)] I T Q := by
  unfold t_M_isSeason_13 at hq
  exact ev_retb rfl rfl hq.1 hq.2
def t_M_isSeason_12 (E : MEnv) (I : II) (T : TT) (Q : QQ) : Prop := t_M_isSeason_13 E I T Q 0
theorem s_M_isSeason_12 {E : MEnv} {I : II} {T : TT} {Q : QQ} (hq : t_M_isSeason_12 E I T Q) : ev E 318 12 [none, none] [] I T Q := by
  unfold t_M_isSeason_12 at hq
  refine ev_seq 1 (ip' := 13) (loc' := [none, none]) (st' := [(.int 0)]) (I1 := I) (T1 := T) rfl ?_
  exact s_M_isSeason_13 (T := T) hq
def t_M_isSeason_0 (E : MEnv) (I : II) (T : TT) (Q : QQ) (x0 : Int32) (x1 : Int32) : Prop := ev E 57 0 [some (.int x0), some (.int 1), some (.int 96)] [] I T (KI (fun v1 I1 T1 => (v1 = 0 → (t_M_isSeason_12 E I1 T1 Q )) ∧ (¬ (v1 = 0) → (ev E 57 0 [some (.int x1), some (.int 0), some (.int 16)] [] I1 T1 (KI (fun v2 I2 T2 => (v2 = 0 → (t_M_isSeason_12 E I2 T2 Q )) ∧ (¬ (v2 = 0) → (t_M_isSeason_13 E I2 T2 Q 1))) (fun _ _ _ => False))))) (fun _ _ _ => False))
theorem s_M_isSeason_0 {E : MEnv} {I : II} {T : TT} {Q : QQ} {x0 : Int32} {x1 : Int32} (hq : t_M_isSeason_0 E I T Q x0 x1) : ev E 318 0 [some (.int x0), some (.int x1)] [] I T Q := by
  unfold t_M_isSeason_0 at hq
  refine ev_seq 3 (ip' := 3) (loc' := [some (.int x0), some (.int x1)]) (st' := [(.int 96), (.int 1), (.int x0)]) (I1 := I) (T1 := T) rfl ?_
  refine ev_callI rfl rfl rfl (fun v1 I1 T1 hq => ?_) (fun x I1 T1 hq => ?_) hq
  · refine ev_br (p := v1 = 0) (a := 12) (b := 5) (st' := []) inferInstance rfl rfl (fun hb => ?_) (fun hb => ?_)
    · have hq := hq.1 hb
      refine ev_fg [false, false] (loc' := [none, none]) rfl ?_
      exact s_M_isSeason_12 (T := T1) hq
    · have hq := hq.2 hb
      refine ev_seq 3 (ip' := 8) (loc' := [some (.int x0), some (.int x1)]) (st' := [(.int 16), (.int 0), (.int x1)]) (I1 := I1) (T1 := T1) rfl ?_
      refine ev_callI rfl rfl rfl (fun v2 I2 T2 hq => ?_) (fun x I1 T1 hq => ?_) hq
      · refine ev_br (p := v2 = 0) (a := 12) (b := 10) (st' := []) inferInstance rfl rfl (fun hb => ?_) (fun hb => ?_)
        · have hq := hq.1 hb
          refine ev_fg [false, false] (loc' := [none, none]) rfl ?_
          exact s_M_isSeason_12 (T := T2) hq
        · have hq := hq.2 hb
          refine ev_seq 2 (ip' := 13) (loc' := [some (.int x0), some (.int x1)]) (st' := [(.int 1)]) (I1 := I2) (T1 := T2) rfl ?_
          refine ev_fg [false, false] (loc' := [none, none]) rfl ?_
          exact s_M_isSeason_13 (T := T2) hq
      · exact hq.elim
  · exact hq.elim
/-- FeltHarnessModel.isSeven(II)Z -/
def t_M_isSeven_60 (E : MEnv) (I : II) (T : TT) (Q : QQ) (y0 : Int32) : Prop := (y0 = 0 ∨ y0 = 1) ∧ Q (.inl (some (.int y0))) I T
theorem s_M_isSeven_60 {E : MEnv} {I : II} {T : TT} {Q : QQ} {y0 : Int32} (hq : t_M_isSeven_60 E I T Q y0) : ev E 65 60 [none, none, none, none, none] [(.int y0)] I T Q := by
  unfold t_M_isSeven_60 at hq
  exact ev_retb rfl rfl hq.1 hq.2
def t_M_isSeven_59 (E : MEnv) (I : II) (T : TT) (Q : QQ) : Prop := t_M_isSeven_60 E I T Q 0
theorem s_M_isSeven_59 {E : MEnv} {I : II} {T : TT} {Q : QQ} (hq : t_M_isSeven_59 E I T Q) : ev E 65 59 [none, none, none, none, none] [] I T Q := by
  unfold t_M_isSeven_59 at hq
  refine ev_seq 1 (ip' := 60) (loc' := [none, none, none, none, none]) (st' := [(.int 0)]) (I1 := I) (T1 := T) rfl ?_
  exact s_M_isSeven_60 (T := T) hq
def t_M_isSeven_33 (E : MEnv) (I : II) (T : TT) (Q : QQ) (x1 : Int32) (x2 : Int32) (x4 : Int32) (y0 : Int32) : Prop := ev E 65 6 [some (.ref 46), some (.int x1), some (.int x2), some (.int y0), some (.int (x4 + 1))] [] I T Q
theorem s_M_isSeven_33 {E : MEnv} {I : II} {T : TT} {Q : QQ} {x1 : Int32} {x2 : Int32} {x4 : Int32} {y0 : Int32} (hq : t_M_isSeven_33 E I T Q x1 x2 x4 y0) : ev E 65 33 [some (.ref 46), some (.int x1), some (.int x2), none, some (.int x4)] [(.int y0)] I T Q := by
  unfold t_M_isSeven_33 at hq
  refine ev_seq 3 (ip' := 6) (loc' := [some (.ref 46), some (.int x1), some (.int x2), some (.int y0), some (.int (x4 + 1))]) (st' := []) (I1 := I) (T1 := T) rfl ?_
  exact hq
def t_M_isSeven_6 (E : MEnv) (I : II) (T : TT) (Q : QQ) (x1 : Int32) (x2 : Int32) (x3 : Int32) (x4 : Int32) : Prop := ev E 61 0 [some (.ref 46), some (.int ((I 46 4) + x4))] [] I T (KI (fun v1 I1 T1 => ev E 66 0 [some (.int v1)] [] I1 T1 (KI (fun v2 I2 T2 => (v2 = 0 → (((I2 46 5) = 0 → ((x4 = 7 → ((x3 = x1 → (ev E 61 0 [some (.ref 46), some (.int ((I2 46 4) + 6))] [] I2 T2 (KI (fun v3 I3 T3 => (v3 = ((97 + x2) - 1) → (t_M_isSeven_60 E I3 T3 Q 1)) ∧ (¬ (v3 = ((97 + x2) - 1)) → (t_M_isSeven_59 E I3 T3 Q ))) (fun x I1 T1 => Q (.inr x) I1 T1)))) ∧ (¬ (x3 = x1) → (t_M_isSeven_59 E I2 T2 Q )))) ∧ (¬ (x4 = 7) → (t_M_isSeven_59 E I2 T2 Q )))) ∧ (¬ ((I2 46 5) = 0) → (t_M_isSeven_59 E I2 T2 Q )))) ∧ (¬ (v2 = 0) → ((6 ≤ x4 → (t_M_isSeven_33 E I2 T2 Q x1 x2 x4 x3)) ∧ (¬ (6 ≤ x4) → (ev E 61 0 [some (.ref 46), some (.int ((I2 46 4) + x4))] [] I2 T2 (KI (fun v4 I4 T4 => t_M_isSeven_33 E I4 T4 Q x1 x2 x4 ((((27 * x3) + v4) - 97) + 1)) (fun x I1 T1 => Q (.inr x) I1 T1))))))) (fun _ _ _ => False))) (fun x I1 T1 => Q (.inr x) I1 T1))
theorem s_M_isSeven_6 {E : MEnv} {I : II} {T : TT} {Q : QQ} {x1 : Int32} {x2 : Int32} {x3 : Int32} {x4 : Int32} (hq : t_M_isSeven_6 E I T Q x1 x2 x3 x4) : ev E 65 6 [some (.ref 46), some (.int x1), some (.int x2), some (.int x3), some (.int x4)] [] I T Q := by
  unfold t_M_isSeven_6 at hq
  refine ev_seq 5 (ip' := 11) (loc' := [some (.ref 46), some (.int x1), some (.int x2), some (.int x3), some (.int x4)]) (st' := [(.int ((I 46 4) + x4)), (.ref 46)]) (I1 := I) (T1 := T) rfl ?_
  refine ev_callI rfl rfl rfl (fun v1 I1 T1 hq => ?_) (fun x I1 T1 hq => ?_) hq
  · refine ev_callI rfl rfl rfl (fun v2 I2 T2 hq => ?_) (fun x I1 T1 hq => ?_) hq
    · refine ev_br (p := v2 = 0) (a := 36) (b := 14) (st' := []) inferInstance rfl rfl (fun hb => ?_) (fun hb => ?_)
      · have hq := hq.1 hb
        refine ev_seq 2 (ip' := 38) (loc' := [some (.ref 46), some (.int x1), some (.int x2), some (.int x3), some (.int x4)]) (st' := [(.int (I2 46 5))]) (I1 := I2) (T1 := T2) rfl ?_
        refine ev_br (p := (I2 46 5) = 0) (a := 39) (b := 59) (st' := []) inferInstance rfl rfl (fun hb => ?_) (fun hb => ?_)
        · have hq := hq.1 hb
          refine ev_seq 2 (ip' := 41) (loc' := [some (.ref 46), some (.int x1), some (.int x2), some (.int x3), some (.int x4)]) (st' := [(.int 7), (.int x4)]) (I1 := I2) (T1 := T2) rfl ?_
          refine ev_br (p := x4 = 7) (a := 42) (b := 59) (st' := []) inferInstance rfl rfl (fun hb => ?_) (fun hb => ?_)
          · have hq := hq.1 hb
            refine ev_seq 2 (ip' := 44) (loc' := [some (.ref 46), some (.int x1), some (.int x2), some (.int x3), some (.int x4)]) (st' := [(.int x1), (.int x3)]) (I1 := I2) (T1 := T2) rfl ?_
            refine ev_br (p := x3 = x1) (a := 45) (b := 59) (st' := []) inferInstance rfl rfl (fun hb => ?_) (fun hb => ?_)
            · have hq := hq.1 hb
              refine ev_seq 5 (ip' := 50) (loc' := [some (.ref 46), some (.int x1), some (.int x2), some (.int x3), some (.int x4)]) (st' := [(.int ((I2 46 4) + 6)), (.ref 46)]) (I1 := I2) (T1 := T2) rfl ?_
              refine ev_callI rfl rfl rfl (fun v3 I3 T3 hq => ?_) (fun x I1 T1 hq => ?_) hq
              · refine ev_seq 5 (ip' := 56) (loc' := [some (.ref 46), some (.int x1), some (.int x2), some (.int x3), some (.int x4)]) (st' := [(.int ((97 + x2) - 1)), (.int v3)]) (I1 := I3) (T1 := T3) rfl ?_
                refine ev_br (p := v3 = ((97 + x2) - 1)) (a := 57) (b := 59) (st' := []) inferInstance rfl rfl (fun hb => ?_) (fun hb => ?_)
                · have hq := hq.1 hb
                  refine ev_seq 2 (ip' := 60) (loc' := [some (.ref 46), some (.int x1), some (.int x2), some (.int x3), some (.int x4)]) (st' := [(.int 1)]) (I1 := I3) (T1 := T3) rfl ?_
                  refine ev_fg [false, false, false, false, false] (loc' := [none, none, none, none, none]) rfl ?_
                  exact s_M_isSeven_60 (T := T3) hq
                · have hq := hq.2 hb
                  refine ev_fg [false, false, false, false, false] (loc' := [none, none, none, none, none]) rfl ?_
                  exact s_M_isSeven_59 (T := T3) hq
              · exact ⟨by decide, hq⟩
            · have hq := hq.2 hb
              refine ev_fg [false, false, false, false, false] (loc' := [none, none, none, none, none]) rfl ?_
              exact s_M_isSeven_59 (T := T2) hq
          · have hq := hq.2 hb
            refine ev_fg [false, false, false, false, false] (loc' := [none, none, none, none, none]) rfl ?_
            exact s_M_isSeven_59 (T := T2) hq
        · have hq := hq.2 hb
          refine ev_fg [false, false, false, false, false] (loc' := [none, none, none, none, none]) rfl ?_
          exact s_M_isSeven_59 (T := T2) hq
      · have hq := hq.2 hb
        refine ev_seq 2 (ip' := 16) (loc' := [some (.ref 46), some (.int x1), some (.int x2), some (.int x3), some (.int x4)]) (st' := [(.int 6), (.int x4)]) (I1 := I2) (T1 := T2) rfl ?_
        refine ev_br (p := 6 ≤ x4) (a := 32) (b := 17) (st' := []) inferInstance rfl rfl (fun hb => ?_) (fun hb => ?_)
        · have hq := hq.1 hb
          refine ev_seq 1 (ip' := 33) (loc' := [some (.ref 46), some (.int x1), some (.int x2), some (.int x3), some (.int x4)]) (st' := [(.int x3)]) (I1 := I2) (T1 := T2) rfl ?_
          refine ev_fg [true, true, true, false, true] (loc' := [some (.ref 46), some (.int x1), some (.int x2), none, some (.int x4)]) rfl ?_
          exact s_M_isSeven_33 (T := T2) hq
        · have hq := hq.2 hb
          refine ev_seq 8 (ip' := 25) (loc' := [some (.ref 46), some (.int x1), some (.int x2), some (.int x3), some (.int x4)]) (st' := [(.int ((I2 46 4) + x4)), (.ref 46), (.int (27 * x3))]) (I1 := I2) (T1 := T2) rfl ?_
          refine ev_callI rfl rfl rfl (fun v4 I4 T4 hq => ?_) (fun x I1 T1 hq => ?_) hq
          · refine ev_seq 6 (ip' := 33) (loc' := [some (.ref 46), some (.int x1), some (.int x2), some (.int x3), some (.int x4)]) (st' := [(.int ((((27 * x3) + v4) - 97) + 1))]) (I1 := I4) (T1 := T4) rfl ?_
            refine ev_fg [true, true, true, false, true] (loc' := [some (.ref 46), some (.int x1), some (.int x2), none, some (.int x4)]) rfl ?_
            exact s_M_isSeven_33 (T := T4) hq
          · exact ⟨by decide, hq⟩
    · exact hq.elim
  · exact ⟨by decide, hq⟩
def t_M_isSeven_0 (E : MEnv) (I : II) (T : TT) (Q : QQ) (x1 : Int32) (x2 : Int32) : Prop := ev E 60 0 [some (.ref 46)] [] I T (KV (fun I1 T1 => t_M_isSeven_6 E I1 T1 Q x1 x2 0 0) (fun x I1 T1 => Q (.inr x) I1 T1))
theorem s_M_isSeven_0 {E : MEnv} {I : II} {T : TT} {Q : QQ} {x1 : Int32} {x2 : Int32} (hq : t_M_isSeven_0 E I T Q x1 x2) : ev E 65 0 [some (.ref 46), some (.int x1), some (.int x2), none, none] [] I T Q := by
  unfold t_M_isSeven_0 at hq
  refine ev_seq 1 (ip' := 1) (loc' := [some (.ref 46), some (.int x1), some (.int x2), none, none]) (st' := [(.ref 46)]) (I1 := I) (T1 := T) rfl ?_
  refine ev_callV rfl rfl rfl (fun I1 T1 hq => ?_) (fun x I1 T1 hq => ?_) hq
  · refine ev_seq 4 (ip' := 6) (loc' := [some (.ref 46), some (.int x1), some (.int x2), some (.int 0), some (.int 0)]) (st' := []) (I1 := I1) (T1 := T1) rfl ?_
    exact s_M_isSeven_6 (T := T1) hq
  · exact ⟨by decide, hq⟩
/-- FeltHarnessModel.isSmall(I)Z -/
def t_M_isSmall_9 (E : MEnv) (I : II) (T : TT) (Q : QQ) (y0 : Int32) : Prop := (y0 = 0 ∨ y0 = 1) ∧ Q (.inl (some (.int y0))) I T
theorem s_M_isSmall_9 {E : MEnv} {I : II} {T : TT} {Q : QQ} {y0 : Int32} (hq : t_M_isSmall_9 E I T Q y0) : ev E 66 9 [none] [(.int y0)] I T Q := by
  unfold t_M_isSmall_9 at hq
  exact ev_retb rfl rfl hq.1 hq.2
def t_M_isSmall_8 (E : MEnv) (I : II) (T : TT) (Q : QQ) : Prop := t_M_isSmall_9 E I T Q 0
theorem s_M_isSmall_8 {E : MEnv} {I : II} {T : TT} {Q : QQ} (hq : t_M_isSmall_8 E I T Q) : ev E 66 8 [none] [] I T Q := by
  unfold t_M_isSmall_8 at hq
  refine ev_seq 1 (ip' := 9) (loc' := [none]) (st' := [(.int 0)]) (I1 := I) (T1 := T) rfl ?_
  exact s_M_isSmall_9 (T := T) hq
def t_M_isSmall_0 (E : MEnv) (I : II) (T : TT) (Q : QQ) (x0 : Int32) : Prop := (x0 < 97 → (t_M_isSmall_8 E I T Q )) ∧ (¬ (x0 < 97) → ((122 < x0 → (t_M_isSmall_8 E I T Q )) ∧ (¬ (122 < x0) → (t_M_isSmall_9 E I T Q 1))))
theorem s_M_isSmall_0 {E : MEnv} {I : II} {T : TT} {Q : QQ} {x0 : Int32} (hq : t_M_isSmall_0 E I T Q x0) : ev E 66 0 [some (.int x0)] [] I T Q := by
  unfold t_M_isSmall_0 at hq
  refine ev_seq 2 (ip' := 2) (loc' := [some (.int x0)]) (st' := [(.int 97), (.int x0)]) (I1 := I) (T1 := T) rfl ?_
  refine ev_br (p := x0 < 97) (a := 8) (b := 3) (st' := []) inferInstance rfl rfl (fun hb => ?_) (fun hb => ?_)
  · have hq := hq.1 hb
    refine ev_fg [false] (loc' := [none]) rfl ?_
    exact s_M_isSmall_8 (T := T) hq
  · have hq := hq.2 hb
    refine ev_seq 2 (ip' := 5) (loc' := [some (.int x0)]) (st' := [(.int 122), (.int x0)]) (I1 := I) (T1 := T) rfl ?_
    refine ev_br (p := 122 < x0) (a := 8) (b := 6) (st' := []) inferInstance rfl rfl (fun hb => ?_) (fun hb => ?_)
    · have hq := hq.1 hb
      refine ev_fg [false] (loc' := [none]) rfl ?_
      exact s_M_isSmall_8 (T := T) hq
    · have hq := hq.2 hb
      refine ev_seq 2 (ip' := 9) (loc' := [some (.int x0)]) (st' := [(.int 1)]) (I1 := I) (T1 := T) rfl ?_
      refine ev_fg [false] (loc' := [none]) rfl ?_
      exact s_M_isSmall_9 (T := T) hq
/-- FeltHarnessModel.isSo(II)Z -/
def t_M_isSo_25 (E : MEnv) (I : II) (T : TT) (Q : QQ) (x3 : Int32) : Prop := ((I 46 33) ≤ x3 → (Q (.inl (some (.int 1))) I T)) ∧ (¬ ((I 46 33) ≤ x3) → ((¬ x3 < 0 ∧ x3.toNatClampNeg < 8) ∧ ((¬ (16 + (I (408 + x3.toNatClampNeg) 0)) < 0 ∧ (16 + (I (408 + x3.toNatClampNeg) 0)).toNatClampNeg < 29) ∧ ((¬ x3 < 0 ∧ x3.toNatClampNeg < 8) ∧ (((I 509 (16 + (I (408 + x3.toNatClampNeg) 0)).toNatClampNeg) = (I (408 + x3.toNatClampNeg) 1) → (ev E 253 25 [some (.ref 46), none, none, some (.int (x3 + 1))] [] I T Q)) ∧ (¬ ((I 509 (16 + (I (408 + x3.toNatClampNeg) 0)).toNatClampNeg) = (I (408 + x3.toNatClampNeg) 1)) → (Q (.inl (some (.int 0))) I T)))))))
theorem s_M_isSo_25 {E : MEnv} {I : II} {T : TT} {Q : QQ} {x3 : Int32} (hq : t_M_isSo_25 E I T Q x3) : ev E 253 25 [some (.ref 46), none, none, some (.int x3)] [] I T Q := by
  unfold t_M_isSo_25 at hq
  refine ev_seq 3 (ip' := 28) (loc' := [some (.ref 46), none, none, some (.int x3)]) (st' := [(.int (I 46 33)), (.int x3)]) (I1 := I) (T1 := T) rfl ?_
  refine ev_br (p := (I 46 33) ≤ x3) (a := 51) (b := 29) (st' := []) inferInstance rfl rfl (fun hb => ?_) (fun hb => ?_)
  · have hq := hq.1 hb
    refine ev_seq 1 (ip' := 52) (loc' := [some (.ref 46), none, none, some (.int x3)]) (st' := [(.int 1)]) (I1 := I) (T1 := T) rfl ?_
    exact ev_ret rfl rfl hq
  · have hq := hq.2 hb
    refine ev_seq 6 (ip' := 35) (loc' := [some (.ref 46), none, none, some (.int x3)]) (st' := [(.int x3), (.ref 407), (.int 16), (.ref 509)]) (I1 := I) (T1 := T) rfl ?_
    obtain ⟨hg, hq⟩ := hq
    have hr1 := hg
    refine ev_aald rfl rfl hg (RF_407 hg.2) ?_
    refine ev_seq 1 (ip' := 37) (loc' := [some (.ref 46), none, none, some (.int x3)]) (st' := [(.int 0), (.ref (408 + x3.toNatClampNeg)), (.int 16), (.ref 509)]) (I1 := I) (T1 := T) rfl ?_
    refine ev_iald rfl (KF_407 hr1.2) ⟨by decide, by decide⟩ ?_
    refine ev_seq 1 (ip' := 39) (loc' := [some (.ref 46), none, none, some (.int x3)]) (st' := [(.int (16 + (I (408 + x3.toNatClampNeg) 0))), (.ref 509)]) (I1 := I) (T1 := T) rfl ?_
    obtain ⟨hg, hq⟩ := hq
    refine ev_iald rfl rfl hg ?_
    refine ev_seq 3 (ip' := 43) (loc' := [some (.ref 46), none, none, some (.int x3)]) (st' := [(.int x3), (.ref 407), (.int (I 509 (16 + (I (408 + x3.toNatClampNeg) 0)).toNatClampNeg))]) (I1 := I) (T1 := T) rfl ?_
    obtain ⟨hg, hq⟩ := hq
    have hr2 := hg
    refine ev_aald rfl rfl hg (RF_407 hg.2) ?_
    refine ev_seq 1 (ip' := 45) (loc' := [some (.ref 46), none, none, some (.int x3)]) (st' := [(.int 1), (.ref (408 + x3.toNatClampNeg)), (.int (I 509 (16 + (I (408 + x3.toNatClampNeg) 0)).toNatClampNeg))]) (I1 := I) (T1 := T) rfl ?_
    refine ev_iald rfl (KF_407 hr2.2) ⟨by decide, by decide⟩ ?_
    refine ev_br (p := (I 509 (16 + (I (408 + x3.toNatClampNeg) 0)).toNatClampNeg) = (I (408 + x3.toNatClampNeg) 1)) (a := 49) (b := 47) (st' := []) inferInstance rfl rfl (fun hb => ?_) (fun hb => ?_)
    · have hq := hq.1 hb
      refine ev_seq 2 (ip' := 25) (loc' := [some (.ref 46), none, none, some (.int (x3 + 1))]) (st' := []) (I1 := I) (T1 := T) rfl ?_
      exact hq
    · have hq := hq.2 hb
      refine ev_seq 1 (ip' := 48) (loc' := [some (.ref 46), none, none, some (.int x3)]) (st' := [(.int 0)]) (I1 := I) (T1 := T) rfl ?_
      exact ev_ret rfl rfl hq
def t_M_isSo_23 (E : MEnv) (I : II) (T : TT) (Q : QQ) : Prop := t_M_isSo_25 E I T Q 0
theorem s_M_isSo_23 {E : MEnv} {I : II} {T : TT} {Q : QQ} (hq : t_M_isSo_23 E I T Q) : ev E 253 23 [some (.ref 46), none, none, none] [] I T Q := by
  unfold t_M_isSo_23 at hq
  refine ev_seq 2 (ip' := 25) (loc' := [some (.ref 46), none, none, some (.int 0)]) (st' := []) (I1 := I) (T1 := T) rfl ?_
  exact s_M_isSo_25 (T := T) hq
def t_M_isSo_0 (E : MEnv) (I : II) (T : TT) (Q : QQ) (x1 : Int32) (x2 : Int32) : Prop := ev E 147 0 [some (.ref 508), some (.ref 509), none] [] I T (KV (fun I1 T1 => (¬ (0 + x2) < 0 ∧ (0 + x2).toNatClampNeg < 29) ∧ (ev E 152 0 [some (.ref 46), some (.ref 509), none, none] [] (m_up I1 509 (0 + x2).toNatClampNeg (-1)) T1 (KI (fun v2 I2 T2 => (v2 = 0 → (t_M_isSo_23 E I2 T2 Q )) ∧ (¬ (v2 = 0) → (ev E 155 0 [some (.ref 46), some (.ref 509), some (.int x1), none, none, none, none] [] I2 T2 (KI (fun v3 I3 T3 => t_M_isSo_23 E I3 T3 Q ) (fun x I1 T1 => Q (.inr x) I1 T1))))) (fun x I1 T1 => Q (.inr x) I1 T1)))) (fun _ _ _ => False))
theorem s_M_isSo_0 {E : MEnv} {I : II} {T : TT} {Q : QQ} {x1 : Int32} {x2 : Int32} (hq : t_M_isSo_0 E I T Q x1 x2) : ev E 253 0 [some (.ref 46), some (.int x1), some (.int x2), none] [] I T Q := by
  unfold t_M_isSo_0 at hq
  refine ev_seq 4 (ip' := 4) (loc' := [some (.ref 46), some (.int x1), some (.int x2), none]) (st' := [(.ref 509), (.ref 508)]) (I1 := I) (T1 := T) rfl ?_
  refine ev_callV rfl rfl rfl (fun I1 T1 hq => ?_) (fun x I1 T1 hq => ?_) hq
  · refine ev_seq 6 (ip' := 11) (loc' := [some (.ref 46), some (.int x1), some (.int x2), none]) (st' := [(.int (-1)), (.int (0 + x2)), (.ref 509)]) (I1 := I1) (T1 := T1) rfl ?_
    obtain ⟨hg, hq⟩ := hq
    refine ev_iast rfl rfl hg ?_
    refine ev_seq 3 (ip' := 15) (loc' := [some (.ref 46), some (.int x1), some (.int x2), none]) (st' := [(.ref 509), (.ref 46)]) (I1 := m_up I1 509 (0 + x2).toNatClampNeg (-1)) (T1 := T1) rfl ?_
    refine ev_callI rfl rfl rfl (fun v2 I2 T2 hq => ?_) (fun x I1 T1 hq => ?_) hq
    · refine ev_br (p := v2 = 0) (a := 23) (b := 17) (st' := []) inferInstance rfl rfl (fun hb => ?_) (fun hb => ?_)
      · have hq := hq.1 hb
        refine ev_fg [true, false, false, true] (loc' := [some (.ref 46), none, none, none]) rfl ?_
        exact s_M_isSo_23 (T := T2) hq
      · have hq := hq.2 hb
        refine ev_seq 4 (ip' := 21) (loc' := [some (.ref 46), some (.int x1), some (.int x2), none]) (st' := [(.int x1), (.ref 509), (.ref 46)]) (I1 := I2) (T1 := T2) rfl ?_
        refine ev_callI rfl rfl rfl (fun v3 I3 T3 hq => ?_) (fun x I1 T1 hq => ?_) hq
        · refine ev_seq 1 (ip' := 23) (loc' := [some (.ref 46), some (.int x1), some (.int x2), none]) (st' := []) (I1 := I3) (T1 := T3) rfl ?_
          refine ev_fg [true, false, false, true] (loc' := [some (.ref 46), none, none, none]) rfl ?_
          exact s_M_isSo_23 (T := T3) hq
        · exact ⟨by decide, hq⟩
    · exact ⟨by decide, hq⟩
  · exact hq.elim
