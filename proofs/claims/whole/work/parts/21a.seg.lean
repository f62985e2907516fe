/-- FeltHarness$Book.clear()V -/
def t_Book_clear_2 (E : MEnv) (I : II) (T : TT) (Q : QQ) (x1 : Int32) : Prop := (8 ≤ x1 → (Q (.inl none) (m_up I 20 2 0) T)) ∧ (¬ (8 ≤ x1) → ((¬ x1 < 0 ∧ x1.toNatClampNeg < 8) ∧ (ev E 9 2 [some (.ref 20), some (.int (x1 + 1))] [] (m_up I 21 x1.toNatClampNeg (-1)) T Q)))
theorem s_Book_clear_2 {E : MEnv} {I : II} {T : TT} {Q : QQ} {x1 : Int32} (hq : t_Book_clear_2 E I T Q x1) : ev E 9 2 [some (.ref 20), some (.int x1)] [] I T Q := by
  unfold t_Book_clear_2 at hq
  refine ev_seq 2 (ip' := 4) (loc' := [some (.ref 20), some (.int x1)]) (st' := [(.int 8), (.int x1)]) (I1 := I) (T1 := T) rfl ?_
  refine ev_br (p := 8 ≤ x1) (a := 12) (b := 5) (st' := []) inferInstance rfl rfl (fun hb => ?_) (fun hb => ?_)
  · have hq := hq.1 hb
    refine ev_seq 3 (ip' := 15) (loc' := [some (.ref 20), some (.int x1)]) (st' := []) (I1 := m_up I 20 2 0) (T1 := T) rfl ?_
    exact ev_ret rfl rfl hq
  · have hq := hq.2 hb
    refine ev_seq 4 (ip' := 9) (loc' := [some (.ref 20), some (.int x1)]) (st' := [(.int (-1)), (.int x1), (.ref 21)]) (I1 := I) (T1 := T) rfl ?_
    obtain ⟨hg, hq⟩ := hq
    refine ev_iast rfl rfl hg ?_
    refine ev_seq 2 (ip' := 2) (loc' := [some (.ref 20), some (.int (x1 + 1))]) (st' := []) (I1 := m_up I 21 x1.toNatClampNeg (-1)) (T1 := T) rfl ?_
    exact hq
def t_Book_clear_0 (E : MEnv) (I : II) (T : TT) (Q : QQ) : Prop := t_Book_clear_2 E I T Q 0
theorem s_Book_clear_0 {E : MEnv} {I : II} {T : TT} {Q : QQ} (hq : t_Book_clear_0 E I T Q) : ev E 9 0 [some (.ref 20), none] [] I T Q := by
  unfold t_Book_clear_0 at hq
  refine ev_seq 2 (ip' := 2) (loc' := [some (.ref 20), some (.int 0)]) (st' := []) (I1 := I) (T1 := T) rfl ?_
  exact s_Book_clear_2 (T := T) hq
/-- FeltHarness$Book.has(I)Z -/
def t_Book_has_14 (E : MEnv) (I : II) (T : TT) (Q : QQ) (y0 : Int32) : Prop := (y0 = 0 ∨ y0 = 1) ∧ Q (.inl (some (.int y0))) I T
theorem s_Book_has_14 {E : MEnv} {I : II} {T : TT} {Q : QQ} {y0 : Int32} (hq : t_Book_has_14 E I T Q y0) : ev E 256 14 [none, none] [(.int y0)] I T Q := by
  unfold t_Book_has_14 at hq
  exact ev_retb rfl rfl hq.1 hq.2
def t_Book_has_13 (E : MEnv) (I : II) (T : TT) (Q : QQ) : Prop := t_Book_has_14 E I T Q 0
theorem s_Book_has_13 {E : MEnv} {I : II} {T : TT} {Q : QQ} (hq : t_Book_has_13 E I T Q) : ev E 256 13 [none, none] [] I T Q := by
  unfold t_Book_has_13 at hq
  refine ev_seq 1 (ip' := 14) (loc' := [none, none]) (st' := [(.int 0)]) (I1 := I) (T1 := T) rfl ?_
  exact s_Book_has_14 (T := T) hq
def t_Book_has_0 (E : MEnv) (I : II) (T : TT) (Q : QQ) (x1 : Int32) : Prop := (x1 < 0 → (t_Book_has_13 E I T Q )) ∧ (¬ (x1 < 0) → ((8 ≤ x1 → (t_Book_has_13 E I T Q )) ∧ (¬ (8 ≤ x1) → ((¬ x1 < 0 ∧ x1.toNatClampNeg < 8) ∧ (((I 21 x1.toNatClampNeg) = (-1) → (t_Book_has_13 E I T Q )) ∧ (¬ ((I 21 x1.toNatClampNeg) = (-1)) → (t_Book_has_14 E I T Q 1)))))))
theorem s_Book_has_0 {E : MEnv} {I : II} {T : TT} {Q : QQ} {x1 : Int32} (hq : t_Book_has_0 E I T Q x1) : ev E 256 0 [some (.ref 20), some (.int x1)] [] I T Q := by
  unfold t_Book_has_0 at hq
  refine ev_seq 1 (ip' := 1) (loc' := [some (.ref 20), some (.int x1)]) (st' := [(.int x1)]) (I1 := I) (T1 := T) rfl ?_
  refine ev_br (p := x1 < 0) (a := 13) (b := 2) (st' := []) inferInstance rfl rfl (fun hb => ?_) (fun hb => ?_)
  · have hq := hq.1 hb
    refine ev_fg [false, false] (loc' := [none, none]) rfl ?_
    exact s_Book_has_13 (T := T) hq
  · have hq := hq.2 hb
    refine ev_seq 2 (ip' := 4) (loc' := [some (.ref 20), some (.int x1)]) (st' := [(.int 8), (.int x1)]) (I1 := I) (T1 := T) rfl ?_
    refine ev_br (p := 8 ≤ x1) (a := 13) (b := 5) (st' := []) inferInstance rfl rfl (fun hb => ?_) (fun hb => ?_)
    · have hq := hq.1 hb
      refine ev_fg [false, false] (loc' := [none, none]) rfl ?_
      exact s_Book_has_13 (T := T) hq
    · have hq := hq.2 hb
      refine ev_seq 3 (ip' := 8) (loc' := [some (.ref 20), some (.int x1)]) (st' := [(.int x1), (.ref 21)]) (I1 := I) (T1 := T) rfl ?_
      obtain ⟨hg, hq⟩ := hq
      refine ev_iald rfl rfl hg ?_
      refine ev_seq 1 (ip' := 10) (loc' := [some (.ref 20), some (.int x1)]) (st' := [(.int (-1)), (.int (I 21 x1.toNatClampNeg))]) (I1 := I) (T1 := T) rfl ?_
      refine ev_br (p := (I 21 x1.toNatClampNeg) = (-1)) (a := 13) (b := 11) (st' := []) inferInstance rfl rfl (fun hb => ?_) (fun hb => ?_)
      · have hq := hq.1 hb
        refine ev_fg [false, false] (loc' := [none, none]) rfl ?_
        exact s_Book_has_13 (T := T) hq
      · have hq := hq.2 hb
        refine ev_seq 2 (ip' := 14) (loc' := [some (.ref 20), some (.int x1)]) (st' := [(.int 1)]) (I1 := I) (T1 := T) rfl ?_
        refine ev_fg [false, false] (loc' := [none, none]) rfl ?_
        exact s_Book_has_14 (T := T) hq
/-- FeltHarness$Book.isRight(LFeltHarness$Coach;)Z -/
def t_Book_isRight_30_21 (E : MEnv) (I : II) (T : TT) (Q : QQ) (x2 : Int32) : Prop := ev E 250 2 [some (.ref 20), some (.ref 30), some (.int (x2 + 1))] [] I T Q
theorem s_Book_isRight_30_21 {E : MEnv} {I : II} {T : TT} {Q : QQ} {x2 : Int32} (hq : t_Book_isRight_30_21 E I T Q x2) : ev E 250 21 [some (.ref 20), some (.ref 30), some (.int x2)] [] I T Q := by
  unfold t_Book_isRight_30_21 at hq
  refine ev_seq 2 (ip' := 2) (loc' := [some (.ref 20), some (.ref 30), some (.int (x2 + 1))]) (st' := []) (I1 := I) (T1 := T) rfl ?_
  exact hq
def t_Book_isRight_30_2 (E : MEnv) (I : II) (T : TT) (Q : QQ) (x2 : Int32) : Prop := (8 ≤ x2 → (Q (.inl (some (.int 1))) I T)) ∧ (¬ (8 ≤ x2) → ((¬ x2 < 0 ∧ x2.toNatClampNeg < 8) ∧ (((I 21 x2.toNatClampNeg) = (-1) → (t_Book_isRight_30_21 E I T Q x2)) ∧ (¬ ((I 21 x2.toNatClampNeg) = (-1)) → ((¬ x2 < 0 ∧ x2.toNatClampNeg < 8) ∧ (ev E 127 0 [some (.ref 30), some (.int x2)] [] I T (KI (fun v1 I1 T1 => ((I 21 x2.toNatClampNeg) = v1 → (t_Book_isRight_30_21 E I1 T1 Q x2)) ∧ (¬ ((I 21 x2.toNatClampNeg) = v1) → (Q (.inl (some (.int 0))) I1 T1))) (fun x I1 T1 => Q (.inr x) I1 T1))))))))
theorem s_Book_isRight_30_2 {E : MEnv} {I : II} {T : TT} {Q : QQ} {x2 : Int32} (hq : t_Book_isRight_30_2 E I T Q x2) : ev E 250 2 [some (.ref 20), some (.ref 30), some (.int x2)] [] I T Q := by
  unfold t_Book_isRight_30_2 at hq
  refine ev_seq 2 (ip' := 4) (loc' := [some (.ref 20), some (.ref 30), some (.int x2)]) (st' := [(.int 8), (.int x2)]) (I1 := I) (T1 := T) rfl ?_
  refine ev_br (p := 8 ≤ x2) (a := 23) (b := 5) (st' := []) inferInstance rfl rfl (fun hb => ?_) (fun hb => ?_)
  · have hq := hq.1 hb
    refine ev_seq 1 (ip' := 24) (loc' := [some (.ref 20), some (.ref 30), some (.int x2)]) (st' := [(.int 1)]) (I1 := I) (T1 := T) rfl ?_
    exact ev_ret rfl rfl hq
  · have hq := hq.2 hb
    refine ev_seq 3 (ip' := 8) (loc' := [some (.ref 20), some (.ref 30), some (.int x2)]) (st' := [(.int x2), (.ref 21)]) (I1 := I) (T1 := T) rfl ?_
    obtain ⟨hg, hq⟩ := hq
    refine ev_iald rfl rfl hg ?_
    refine ev_seq 1 (ip' := 10) (loc' := [some (.ref 20), some (.ref 30), some (.int x2)]) (st' := [(.int (-1)), (.int (I 21 x2.toNatClampNeg))]) (I1 := I) (T1 := T) rfl ?_
    refine ev_br (p := (I 21 x2.toNatClampNeg) = (-1)) (a := 21) (b := 11) (st' := []) inferInstance rfl rfl (fun hb => ?_) (fun hb => ?_)
    · have hq := hq.1 hb
      exact s_Book_isRight_30_21 (T := T) hq
    · have hq := hq.2 hb
      refine ev_seq 3 (ip' := 14) (loc' := [some (.ref 20), some (.ref 30), some (.int x2)]) (st' := [(.int x2), (.ref 21)]) (I1 := I) (T1 := T) rfl ?_
      obtain ⟨hg, hq⟩ := hq
      refine ev_iald rfl rfl hg ?_
      refine ev_seq 2 (ip' := 17) (loc' := [some (.ref 20), some (.ref 30), some (.int x2)]) (st' := [(.int x2), (.ref 30), (.int (I 21 x2.toNatClampNeg))]) (I1 := I) (T1 := T) rfl ?_
      refine ev_callI rfl rfl rfl (fun v1 I1 T1 hq => ?_) (fun x I1 T1 hq => ?_) hq
      · refine ev_br (p := (I 21 x2.toNatClampNeg) = v1) (a := 21) (b := 19) (st' := []) inferInstance rfl rfl (fun hb => ?_) (fun hb => ?_)
        · have hq := hq.1 hb
          exact s_Book_isRight_30_21 (T := T1) hq
        · have hq := hq.2 hb
          refine ev_seq 1 (ip' := 20) (loc' := [some (.ref 20), some (.ref 30), some (.int x2)]) (st' := [(.int 0)]) (I1 := I1) (T1 := T1) rfl ?_
          exact ev_ret rfl rfl hq
      · exact ⟨by decide, hq⟩
def t_Book_isRight_30_0 (E : MEnv) (I : II) (T : TT) (Q : QQ) : Prop := t_Book_isRight_30_2 E I T Q 0
theorem s_Book_isRight_30_0 {E : MEnv} {I : II} {T : TT} {Q : QQ} (hq : t_Book_isRight_30_0 E I T Q) : ev E 250 0 [some (.ref 20), some (.ref 30), none] [] I T Q := by
  unfold t_Book_isRight_30_0 at hq
  refine ev_seq 2 (ip' := 2) (loc' := [some (.ref 20), some (.ref 30), some (.int 0)]) (st' := []) (I1 := I) (T1 := T) rfl ?_
  exact s_Book_isRight_30_2 (T := T) hq
/-- FeltHarness$Book.read(LFeltHarness$Text;I)V -/
def t_Book_read_50 (E : MEnv) (I : II) (T : TT) (Q : QQ) : Prop := Q (.inl none) I T
theorem s_Book_read_50 {E : MEnv} {I : II} {T : TT} {Q : QQ} (hq : t_Book_read_50 E I T Q) : ev E 171 50 [none, none, none, none, none] [] I T Q := by
  unfold t_Book_read_50 at hq
  exact ev_ret rfl rfl hq
def t_Book_read_36 (E : MEnv) (I : II) (T : TT) (Q : QQ) (x3 : Int32) : Prop := ev E 31 0 [some (.ref 1)] [] I T (KI (fun v1 I1 T1 => (v1 = 0 → (t_Book_read_50 E I1 T1 Q )) ∧ (¬ (v1 = 0) → (t_Book_read_50 E (m_up (m_row I1 21 (va_cpy (I1 22) (I1 21) 0 0 8)) 20 2 x3) T1 Q ))) (fun x I1 T1 => Q (.inr x) I1 T1))
theorem s_Book_read_36 {E : MEnv} {I : II} {T : TT} {Q : QQ} {x3 : Int32} (hq : t_Book_read_36 E I T Q x3) : ev E 171 36 [some (.ref 20), some (.ref 1), none, some (.int x3), none] [] I T Q := by
  unfold t_Book_read_36 at hq
  refine ev_seq 1 (ip' := 37) (loc' := [some (.ref 20), some (.ref 1), none, some (.int x3), none]) (st' := [(.ref 1)]) (I1 := I) (T1 := T) rfl ?_
  refine ev_callI rfl rfl rfl (fun v1 I1 T1 hq => ?_) (fun x I1 T1 hq => ?_) hq
  · refine ev_br (p := v1 = 0) (a := 50) (b := 39) (st' := []) inferInstance rfl rfl (fun hb => ?_) (fun hb => ?_)
    · have hq := hq.1 hb
      refine ev_fg [false, false, true, false, true] (loc' := [none, none, none, none, none]) rfl ?_
      exact s_Book_read_50 (T := T1) hq
    · have hq := hq.2 hb
      refine ev_seq 11 (ip' := 50) (loc' := [some (.ref 20), some (.ref 1), none, some (.int x3), none]) (st' := []) (I1 := m_up (m_row I1 21 (va_cpy (I1 22) (I1 21) 0 0 8)) 20 2 x3) (T1 := T1) rfl ?_
      refine ev_fg [false, false, true, false, true] (loc' := [none, none, none, none, none]) rfl ?_
      exact s_Book_read_50 (T := T1) hq
  · exact ⟨by decide, hq⟩
def t_Book_read_16 (E : MEnv) (I : II) (T : TT) (Q : QQ) (x2 : Int32) (x3 : Int32) (x4 : Int32) : Prop := (8 < x4 → (t_Book_read_36 E I T Q x3)) ∧ (¬ (8 < x4) → (ev E 31 0 [some (.ref 1)] [] I T (KI (fun v1 I1 T1 => (v1 = 0 → (t_Book_read_36 E I1 T1 Q x3)) ∧ (¬ (v1 = 0) → (ev E 32 0 [some (.ref 1)] [] I1 T1 (KI (fun v2 I2 T2 => (v2 = (-1) → (t_Book_read_36 E I2 T2 Q x3)) ∧ (¬ (v2 = (-1)) → (ev E 172 0 [some (.ref 20), some (.ref 1), some (.int x2), none] [] I2 T2 (KV (fun I3 T3 => ev E 51 0 [some (.ref 1), some (.int 59)] [] I3 T3 (KV (fun I4 T4 => ev E 171 16 [some (.ref 20), some (.ref 1), some (.int x2), some (.int (x3 + 1)), some (.int (x4 + 1))] [] I4 T4 Q) (fun x I1 T1 => Q (.inr x) I1 T1))) (fun x I1 T1 => Q (.inr x) I1 T1))))) (fun x I1 T1 => Q (.inr x) I1 T1))))) (fun x I1 T1 => Q (.inr x) I1 T1))))
theorem s_Book_read_16 {E : MEnv} {I : II} {T : TT} {Q : QQ} {x2 : Int32} {x3 : Int32} {x4 : Int32} (hq : t_Book_read_16 E I T Q x2 x3 x4) : ev E 171 16 [some (.ref 20), some (.ref 1), some (.int x2), some (.int x3), some (.int x4)] [] I T Q := by
  unfold t_Book_read_16 at hq
  refine ev_seq 2 (ip' := 18) (loc' := [some (.ref 20), some (.ref 1), some (.int x2), some (.int x3), some (.int x4)]) (st' := [(.int 8), (.int x4)]) (I1 := I) (T1 := T) rfl ?_
  refine ev_br (p := 8 < x4) (a := 36) (b := 19) (st' := []) inferInstance rfl rfl (fun hb => ?_) (fun hb => ?_)
  · have hq := hq.1 hb
    refine ev_fg [true, true, false, true, false] (loc' := [some (.ref 20), some (.ref 1), none, some (.int x3), none]) rfl ?_
    exact s_Book_read_36 (T := T) hq
  · have hq := hq.2 hb
    refine ev_seq 1 (ip' := 20) (loc' := [some (.ref 20), some (.ref 1), some (.int x2), some (.int x3), some (.int x4)]) (st' := [(.ref 1)]) (I1 := I) (T1 := T) rfl ?_
    refine ev_callI rfl rfl rfl (fun v1 I1 T1 hq => ?_) (fun x I1 T1 hq => ?_) hq
    · refine ev_br (p := v1 = 0) (a := 36) (b := 22) (st' := []) inferInstance rfl rfl (fun hb => ?_) (fun hb => ?_)
      · have hq := hq.1 hb
        refine ev_fg [true, true, false, true, false] (loc' := [some (.ref 20), some (.ref 1), none, some (.int x3), none]) rfl ?_
        exact s_Book_read_36 (T := T1) hq
      · have hq := hq.2 hb
        refine ev_seq 1 (ip' := 23) (loc' := [some (.ref 20), some (.ref 1), some (.int x2), some (.int x3), some (.int x4)]) (st' := [(.ref 1)]) (I1 := I1) (T1 := T1) rfl ?_
        refine ev_callI rfl rfl rfl (fun v2 I2 T2 hq => ?_) (fun x I1 T1 hq => ?_) hq
        · refine ev_seq 1 (ip' := 25) (loc' := [some (.ref 20), some (.ref 1), some (.int x2), some (.int x3), some (.int x4)]) (st' := [(.int (-1)), (.int v2)]) (I1 := I2) (T1 := T2) rfl ?_
          refine ev_br (p := v2 = (-1)) (a := 36) (b := 26) (st' := []) inferInstance rfl rfl (fun hb => ?_) (fun hb => ?_)
          · have hq := hq.1 hb
            refine ev_fg [true, true, false, true, false] (loc' := [some (.ref 20), some (.ref 1), none, some (.int x3), none]) rfl ?_
            exact s_Book_read_36 (T := T2) hq
          · have hq := hq.2 hb
            refine ev_seq 3 (ip' := 29) (loc' := [some (.ref 20), some (.ref 1), some (.int x2), some (.int x3), some (.int x4)]) (st' := [(.int x2), (.ref 1), (.ref 20)]) (I1 := I2) (T1 := T2) rfl ?_
            refine ev_callV rfl rfl rfl (fun I3 T3 hq => ?_) (fun x I1 T1 hq => ?_) hq
            · refine ev_seq 2 (ip' := 32) (loc' := [some (.ref 20), some (.ref 1), some (.int x2), some (.int x3), some (.int x4)]) (st' := [(.int 59), (.ref 1)]) (I1 := I3) (T1 := T3) rfl ?_
              refine ev_callV rfl rfl rfl (fun I4 T4 hq => ?_) (fun x I1 T1 hq => ?_) hq
              · refine ev_seq 3 (ip' := 16) (loc' := [some (.ref 20), some (.ref 1), some (.int x2), some (.int (x3 + 1)), some (.int (x4 + 1))]) (st' := []) (I1 := I4) (T1 := T4) rfl ?_
                exact hq
              · exact ⟨by decide, hq⟩
            · exact ⟨by decide, hq⟩
        · exact ⟨by decide, hq⟩
    · exact ⟨by decide, hq⟩
def t_Book_read_2 (E : MEnv) (I : II) (T : TT) (Q : QQ) (x2 : Int32) (x3 : Int32) : Prop := (8 ≤ x3 → (t_Book_read_16 E I T Q x2 0 0)) ∧ (¬ (8 ≤ x3) → ((¬ x3 < 0 ∧ x3.toNatClampNeg < 8) ∧ (ev E 171 2 [some (.ref 20), some (.ref 1), some (.int x2), some (.int (x3 + 1)), none] [] (m_up I 22 x3.toNatClampNeg (-1)) T Q)))
theorem s_Book_read_2 {E : MEnv} {I : II} {T : TT} {Q : QQ} {x2 : Int32} {x3 : Int32} (hq : t_Book_read_2 E I T Q x2 x3) : ev E 171 2 [some (.ref 20), some (.ref 1), some (.int x2), some (.int x3), none] [] I T Q := by
  unfold t_Book_read_2 at hq
  refine ev_seq 2 (ip' := 4) (loc' := [some (.ref 20), some (.ref 1), some (.int x2), some (.int x3), none]) (st' := [(.int 8), (.int x3)]) (I1 := I) (T1 := T) rfl ?_
  refine ev_br (p := 8 ≤ x3) (a := 12) (b := 5) (st' := []) inferInstance rfl rfl (fun hb => ?_) (fun hb => ?_)
  · have hq := hq.1 hb
    refine ev_seq 4 (ip' := 16) (loc' := [some (.ref 20), some (.ref 1), some (.int x2), some (.int 0), some (.int 0)]) (st' := []) (I1 := I) (T1 := T) rfl ?_
    exact s_Book_read_16 (T := T) hq
  · have hq := hq.2 hb
    refine ev_seq 4 (ip' := 9) (loc' := [some (.ref 20), some (.ref 1), some (.int x2), some (.int x3), none]) (st' := [(.int (-1)), (.int x3), (.ref 22)]) (I1 := I) (T1 := T) rfl ?_
    obtain ⟨hg, hq⟩ := hq
    refine ev_iast rfl rfl hg ?_
    refine ev_seq 2 (ip' := 2) (loc' := [some (.ref 20), some (.ref 1), some (.int x2), some (.int (x3 + 1)), none]) (st' := []) (I1 := m_up I 22 x3.toNatClampNeg (-1)) (T1 := T) rfl ?_
    exact hq
def t_Book_read_0 (E : MEnv) (I : II) (T : TT) (Q : QQ) (x2 : Int32) : Prop := t_Book_read_2 E I T Q x2 0
theorem s_Book_read_0 {E : MEnv} {I : II} {T : TT} {Q : QQ} {x2 : Int32} (hq : t_Book_read_0 E I T Q x2) : ev E 171 0 [some (.ref 20), some (.ref 1), some (.int x2), none, none] [] I T Q := by
  unfold t_Book_read_0 at hq
  refine ev_seq 2 (ip' := 2) (loc' := [some (.ref 20), some (.ref 1), some (.int x2), some (.int 0), none]) (st' := []) (I1 := I) (T1 := T) rfl ?_
  exact s_Book_read_2 (T := T) hq
/-- FeltHarness$Book.readLine(LFeltHarness$Text;I)V -/
def t_Book_readLine_15 (E : MEnv) (I : II) (T : TT) (Q : QQ) : Prop := Q (.inl none) I T
theorem s_Book_readLine_15 {E : MEnv} {I : II} {T : TT} {Q : QQ} (hq : t_Book_readLine_15 E I T Q) : ev E 172 15 [none, none, none, none] [] I T Q := by
  unfold t_Book_readLine_15 at hq
  exact ev_ret rfl rfl hq
def t_Book_readLine_0 (E : MEnv) (I : II) (T : TT) (Q : QQ) (x2 : Int32) : Prop := ev E 47 0 [some (.ref 1), some (.int 0), some (.int (x2 - 1)), none, none] [] I T (KI (fun v1 I1 T1 => (v1 < 0 → (t_Book_readLine_15 E I1 T1 Q )) ∧ (¬ (v1 < 0) → ((8 ≤ v1 → (t_Book_readLine_15 E I1 T1 Q )) ∧ (¬ (8 ≤ v1) → (ev E 31 0 [some (.ref 1)] [] I1 T1 (KI (fun v2 I2 T2 => (v2 = 0 → (t_Book_readLine_15 E I2 T2 Q )) ∧ (¬ (v2 = 0) → ((¬ v1 < 0 ∧ v1.toNatClampNeg < 8) ∧ (((I2 22 v1.toNatClampNeg) = (-1) → (ev E 47 0 [some (.ref 1), some (.int 0), some (.int 999), none, none] [] I2 T2 (KI (fun v3 I3 T3 => (¬ v1 < 0 ∧ v1.toNatClampNeg < 8) ∧ (Q (.inl none) (m_up I3 22 v1.toNatClampNeg v3) T3)) (fun x I1 T1 => Q (.inr x) I1 T1)))) ∧ (¬ ((I2 22 v1.toNatClampNeg) = (-1)) → (ev E 45 0 [some (.ref 1), some (.int 2), some (.int (I2 1 4))] [] I2 T2 (KV (fun I4 T4 => Q (.inl none) I4 T4) (fun x I1 T1 => Q (.inr x) I1 T1)))))))) (fun x I1 T1 => Q (.inr x) I1 T1))))))) (fun x I1 T1 => Q (.inr x) I1 T1))
theorem s_Book_readLine_0 {E : MEnv} {I : II} {T : TT} {Q : QQ} {x2 : Int32} (hq : t_Book_readLine_0 E I T Q x2) : ev E 172 0 [some (.ref 20), some (.ref 1), some (.int x2), none] [] I T Q := by
  unfold t_Book_readLine_0 at hq
  refine ev_seq 5 (ip' := 5) (loc' := [some (.ref 20), some (.ref 1), some (.int x2), none]) (st' := [(.int (x2 - 1)), (.int 0), (.ref 1)]) (I1 := I) (T1 := T) rfl ?_
  refine ev_callI rfl rfl rfl (fun v1 I1 T1 hq => ?_) (fun x I1 T1 hq => ?_) hq
  · refine ev_seq 2 (ip' := 8) (loc' := [some (.ref 20), some (.ref 1), some (.int x2), some (.int v1)]) (st' := [(.int v1)]) (I1 := I1) (T1 := T1) rfl ?_
    refine ev_br (p := v1 < 0) (a := 15) (b := 9) (st' := []) inferInstance rfl rfl (fun hb => ?_) (fun hb => ?_)
    · have hq := hq.1 hb
      refine ev_fg [false, false, false, false] (loc' := [none, none, none, none]) rfl ?_
      exact s_Book_readLine_15 (T := T1) hq
    · have hq := hq.2 hb
      refine ev_seq 2 (ip' := 11) (loc' := [some (.ref 20), some (.ref 1), some (.int x2), some (.int v1)]) (st' := [(.int 8), (.int v1)]) (I1 := I1) (T1 := T1) rfl ?_
      refine ev_br (p := 8 ≤ v1) (a := 15) (b := 12) (st' := []) inferInstance rfl rfl (fun hb => ?_) (fun hb => ?_)
      · have hq := hq.1 hb
        refine ev_fg [false, false, false, false] (loc' := [none, none, none, none]) rfl ?_
        exact s_Book_readLine_15 (T := T1) hq
      · have hq := hq.2 hb
        refine ev_seq 1 (ip' := 13) (loc' := [some (.ref 20), some (.ref 1), some (.int x2), some (.int v1)]) (st' := [(.ref 1)]) (I1 := I1) (T1 := T1) rfl ?_
        refine ev_callI rfl rfl rfl (fun v2 I2 T2 hq => ?_) (fun x I1 T1 hq => ?_) hq
        · refine ev_br (p := v2 = 0) (a := 15) (b := 16) (st' := []) inferInstance rfl rfl (fun hb => ?_) (fun hb => ?_)
          · have hq := hq.1 hb
            refine ev_fg [false, false, false, false] (loc' := [none, none, none, none]) rfl ?_
            exact s_Book_readLine_15 (T := T2) hq
          · have hq := hq.2 hb
            refine ev_seq 3 (ip' := 19) (loc' := [some (.ref 20), some (.ref 1), some (.int x2), some (.int v1)]) (st' := [(.int v1), (.ref 22)]) (I1 := I2) (T1 := T2) rfl ?_
            obtain ⟨hg, hq⟩ := hq
            refine ev_iald rfl rfl hg ?_
            refine ev_seq 1 (ip' := 21) (loc' := [some (.ref 20), some (.ref 1), some (.int x2), some (.int v1)]) (st' := [(.int (-1)), (.int (I2 22 v1.toNatClampNeg))]) (I1 := I2) (T1 := T2) rfl ?_
            refine ev_br (p := (I2 22 v1.toNatClampNeg) = (-1)) (a := 28) (b := 22) (st' := []) inferInstance rfl rfl (fun hb => ?_) (fun hb => ?_)
            · have hq := hq.1 hb
              refine ev_seq 6 (ip' := 34) (loc' := [some (.ref 20), some (.ref 1), some (.int x2), some (.int v1)]) (st' := [(.int 999), (.int 0), (.ref 1), (.int v1), (.ref 22)]) (I1 := I2) (T1 := T2) rfl ?_
              refine ev_callI rfl rfl rfl (fun v3 I3 T3 hq => ?_) (fun x I1 T1 hq => ?_) hq
              · obtain ⟨hg, hq⟩ := hq
                refine ev_iast rfl rfl hg ?_
                exact ev_ret rfl rfl hq
              · exact ⟨by decide, hq⟩
            · have hq := hq.2 hb
              refine ev_seq 4 (ip' := 26) (loc' := [some (.ref 20), some (.ref 1), some (.int x2), some (.int v1)]) (st' := [(.int (I2 1 4)), (.int 2), (.ref 1)]) (I1 := I2) (T1 := T2) rfl ?_
              refine ev_callV rfl rfl rfl (fun I4 T4 hq => ?_) (fun x I1 T1 hq => ?_) hq
              · exact ev_ret rfl rfl hq
              · exact ⟨by decide, hq⟩
        · exact ⟨by decide, hq⟩
  · exact ⟨by decide, hq⟩
/-- FeltHarness$Coach.behind()I -/
def t_Coach_behind_28_0 (E : MEnv) (I : II) (T : TT) (Q : QQ) : Prop := Q (.inl (some (.int (I 29 25)))) I T
theorem s_Coach_behind_28_0 {E : MEnv} {I : II} {T : TT} {Q : QQ} (hq : t_Coach_behind_28_0 E I T Q) : ev E 115 0 [some (.ref 28)] [] I T Q := by
  unfold t_Coach_behind_28_0 at hq
  refine ev_seq 4 (ip' := 4) (loc' := [some (.ref 28)]) (st' := [(.int (I 29 25))]) (I1 := I) (T1 := T) rfl ?_
  exact ev_ret rfl rfl hq
/-- FeltHarness$Coach.behind()I -/
def t_Coach_behind_30_0 (E : MEnv) (I : II) (T : TT) (Q : QQ) : Prop := Q (.inl (some (.int (I 31 25)))) I T
theorem s_Coach_behind_30_0 {E : MEnv} {I : II} {T : TT} {Q : QQ} (hq : t_Coach_behind_30_0 E I T Q) : ev E 115 0 [some (.ref 30)] [] I T Q := by
  unfold t_Coach_behind_30_0 at hq
  refine ev_seq 4 (ip' := 4) (loc' := [some (.ref 30)]) (st' := [(.int (I 31 25))]) (I1 := I) (T1 := T) rfl ?_
  exact ev_ret rfl rfl hq
/-- FeltHarness$Coach.canDo(III)Z -/
def t_Coach_canDo_28_0 (E : MEnv) (I : II) (T : TT) (Q : QQ) (x1 : Int32) (x2 : Int32) (x3 : Int32) : Prop := ev E 105 (m_tsw 0 5 [2, 7, 11, 20, 23, 30] 38 x1) [some (.ref 28), some (.int x1), some (.int x2), some (.int x3)] [] I T Q
theorem s_Coach_canDo_28_0 {E : MEnv} {I : II} {T : TT} {Q : QQ} {x1 : Int32} {x2 : Int32} {x3 : Int32} (hq : t_Coach_canDo_28_0 E I T Q x1 x2 x3) : ev E 105 0 [some (.ref 28), some (.int x1), some (.int x2), some (.int x3)] [] I T Q := by
  unfold t_Coach_canDo_28_0 at hq
  refine ev_seq 1 (ip' := 1) (loc' := [some (.ref 28), some (.int x1), some (.int x2), some (.int x3)]) (st' := [(.int x1)]) (I1 := I) (T1 := T) rfl ?_
  refine ev_jp rfl rfl ?_
  exact hq
def t_Coach_canDo_28_2 (E : MEnv) (I : II) (T : TT) (Q : QQ) (x2 : Int32) (x3 : Int32) : Prop := ev E 106 0 [some (.ref 28), some (.int x2), some (.int x3)] [] I T (KI (fun v1 I1 T1 => (v1 = 0 ∨ v1 = 1) ∧ Q (.inl (some (.int v1))) I1 T1) (fun x I1 T1 => Q (.inr x) I1 T1))
theorem s_Coach_canDo_28_2 {E : MEnv} {I : II} {T : TT} {Q : QQ} {x2 : Int32} {x3 : Int32} (hq : t_Coach_canDo_28_2 E I T Q x2 x3) : ev E 105 2 [some (.ref 28), none, some (.int x2), some (.int x3)] [] I T Q := by
  unfold t_Coach_canDo_28_2 at hq
  refine ev_seq 3 (ip' := 5) (loc' := [some (.ref 28), none, some (.int x2), some (.int x3)]) (st' := [(.int x3), (.int x2), (.ref 28)]) (I1 := I) (T1 := T) rfl ?_
  refine ev_callI rfl rfl rfl (fun v1 I1 T1 hq => ?_) (fun x I1 T1 hq => ?_) hq
  · exact ev_retb rfl rfl hq.1 hq.2
  · exact ⟨by decide, hq⟩
def t_Coach_canDo_28_7 (E : MEnv) (I : II) (T : TT) (Q : QQ) (x2 : Int32) : Prop := ev E 108 0 [some (.ref 28), some (.int x2)] [] I T (KI (fun v1 I1 T1 => (v1 = 0 ∨ v1 = 1) ∧ Q (.inl (some (.int v1))) I1 T1) (fun x I1 T1 => Q (.inr x) I1 T1))
theorem s_Coach_canDo_28_7 {E : MEnv} {I : II} {T : TT} {Q : QQ} {x2 : Int32} (hq : t_Coach_canDo_28_7 E I T Q x2) : ev E 105 7 [some (.ref 28), none, some (.int x2), none] [] I T Q := by
  unfold t_Coach_canDo_28_7 at hq
  refine ev_seq 2 (ip' := 9) (loc' := [some (.ref 28), none, some (.int x2), none]) (st' := [(.int x2), (.ref 28)]) (I1 := I) (T1 := T) rfl ?_
  refine ev_callI rfl rfl rfl (fun v1 I1 T1 hq => ?_) (fun x I1 T1 hq => ?_) hq
  · exact ev_retb rfl rfl hq.1 hq.2
  · exact ⟨by decide, hq⟩
def t_Coach_canDo_28_19 (E : MEnv) (I : II) (T : TT) (Q : QQ) (y0 : Int32) : Prop := (y0 = 0 ∨ y0 = 1) ∧ Q (.inl (some (.int y0))) I T
theorem s_Coach_canDo_28_19 {E : MEnv} {I : II} {T : TT} {Q : QQ} {y0 : Int32} (hq : t_Coach_canDo_28_19 E I T Q y0) : ev E 105 19 [none, none, none, none] [(.int y0)] I T Q := by
  unfold t_Coach_canDo_28_19 at hq
  exact ev_retb rfl rfl hq.1 hq.2
def t_Coach_canDo_28_11 (E : MEnv) (I : II) (T : TT) (Q : QQ) (x2 : Int32) (x3 : Int32) : Prop := ev E 113 0 [some (.ref 28), some (.int x2)] [] I T (KI (fun v1 I1 T1 => (v1 = x3 → (t_Coach_canDo_28_19 E I1 T1 Q 0)) ∧ (¬ (v1 = x3) → (t_Coach_canDo_28_19 E I1 T1 Q 1))) (fun x I1 T1 => Q (.inr x) I1 T1))
theorem s_Coach_canDo_28_11 {E : MEnv} {I : II} {T : TT} {Q : QQ} {x2 : Int32} {x3 : Int32} (hq : t_Coach_canDo_28_11 E I T Q x2 x3) : ev E 105 11 [some (.ref 28), none, some (.int x2), some (.int x3)] [] I T Q := by
  unfold t_Coach_canDo_28_11 at hq
  refine ev_seq 2 (ip' := 13) (loc' := [some (.ref 28), none, some (.int x2), some (.int x3)]) (st' := [(.int x2), (.ref 28)]) (I1 := I) (T1 := T) rfl ?_
  refine ev_callI rfl rfl rfl (fun v1 I1 T1 hq => ?_) (fun x I1 T1 hq => ?_) hq
  · refine ev_seq 1 (ip' := 15) (loc' := [some (.ref 28), none, some (.int x2), some (.int x3)]) (st' := [(.int x3), (.int v1)]) (I1 := I1) (T1 := T1) rfl ?_
    refine ev_br (p := v1 = x3) (a := 18) (b := 16) (st' := []) inferInstance rfl rfl (fun hb => ?_) (fun hb => ?_)
    · have hq := hq.1 hb
      refine ev_seq 1 (ip' := 19) (loc' := [some (.ref 28), none, some (.int x2), some (.int x3)]) (st' := [(.int 0)]) (I1 := I1) (T1 := T1) rfl ?_
      refine ev_fg [false, true, false, false] (loc' := [none, none, none, none]) rfl ?_
      exact s_Coach_canDo_28_19 (T := T1) hq
    · have hq := hq.2 hb
      refine ev_seq 2 (ip' := 19) (loc' := [some (.ref 28), none, some (.int x2), some (.int x3)]) (st' := [(.int 1)]) (I1 := I1) (T1 := T1) rfl ?_
      refine ev_fg [false, true, false, false] (loc' := [none, none, none, none]) rfl ?_
      exact s_Coach_canDo_28_19 (T := T1) hq
  · exact ⟨by decide, hq⟩
def t_Coach_canDo_28_20 (E : MEnv) (I : II) (T : TT) (Q : QQ) : Prop := ev E 114 0 [some (.ref 28)] [] I T (KI (fun v1 I1 T1 => (v1 = 0 ∨ v1 = 1) ∧ Q (.inl (some (.int v1))) I1 T1) (fun x I1 T1 => Q (.inr x) I1 T1))
theorem s_Coach_canDo_28_20 {E : MEnv} {I : II} {T : TT} {Q : QQ} (hq : t_Coach_canDo_28_20 E I T Q) : ev E 105 20 [some (.ref 28), none, none, none] [] I T Q := by
  unfold t_Coach_canDo_28_20 at hq
  refine ev_seq 1 (ip' := 21) (loc' := [some (.ref 28), none, none, none]) (st' := [(.ref 28)]) (I1 := I) (T1 := T) rfl ?_
  refine ev_callI rfl rfl rfl (fun v1 I1 T1 hq => ?_) (fun x I1 T1 hq => ?_) hq
  · exact ev_retb rfl rfl hq.1 hq.2
  · exact ⟨by decide, hq⟩
def t_Coach_canDo_28_29 (E : MEnv) (I : II) (T : TT) (Q : QQ) (y0 : Int32) : Prop := (y0 = 0 ∨ y0 = 1) ∧ Q (.inl (some (.int y0))) I T
theorem s_Coach_canDo_28_29 {E : MEnv} {I : II} {T : TT} {Q : QQ} {y0 : Int32} (hq : t_Coach_canDo_28_29 E I T Q y0) : ev E 105 29 [none, none, none, none] [(.int y0)] I T Q := by
  unfold t_Coach_canDo_28_29 at hq
  exact ev_retb rfl rfl hq.1 hq.2
def t_Coach_canDo_28_23 (E : MEnv) (I : II) (T : TT) (Q : QQ) : Prop := ev E 115 0 [some (.ref 28)] [] I T (KI (fun v1 I1 T1 => (v1 = 0 → (t_Coach_canDo_28_29 E I1 T1 Q 0)) ∧ (¬ (v1 = 0) → (t_Coach_canDo_28_29 E I1 T1 Q 1))) (fun x I1 T1 => Q (.inr x) I1 T1))
theorem s_Coach_canDo_28_23 {E : MEnv} {I : II} {T : TT} {Q : QQ} (hq : t_Coach_canDo_28_23 E I T Q) : ev E 105 23 [some (.ref 28), none, none, none] [] I T Q := by
  unfold t_Coach_canDo_28_23 at hq
  refine ev_seq 1 (ip' := 24) (loc' := [some (.ref 28), none, none, none]) (st' := [(.ref 28)]) (I1 := I) (T1 := T) rfl ?_
  refine ev_callI rfl rfl rfl (fun v1 I1 T1 hq => ?_) (fun x I1 T1 hq => ?_) hq
  · refine ev_br (p := v1 = 0) (a := 28) (b := 26) (st' := []) inferInstance rfl rfl (fun hb => ?_) (fun hb => ?_)
    · have hq := hq.1 hb
      refine ev_seq 1 (ip' := 29) (loc' := [some (.ref 28), none, none, none]) (st' := [(.int 0)]) (I1 := I1) (T1 := T1) rfl ?_
      refine ev_fg [false, true, true, true] (loc' := [none, none, none, none]) rfl ?_
      exact s_Coach_canDo_28_29 (T := T1) hq
    · have hq := hq.2 hb
      refine ev_seq 2 (ip' := 29) (loc' := [some (.ref 28), none, none, none]) (st' := [(.int 1)]) (I1 := I1) (T1 := T1) rfl ?_
      refine ev_fg [false, true, true, true] (loc' := [none, none, none, none]) rfl ?_
      exact s_Coach_canDo_28_29 (T := T1) hq
  · exact ⟨by decide, hq⟩
def t_Coach_canDo_28_37 (E : MEnv) (I : II) (T : TT) (Q : QQ) (y0 : Int32) : Prop := (y0 = 0 ∨ y0 = 1) ∧ Q (.inl (some (.int y0))) I T
theorem s_Coach_canDo_28_37 {E : MEnv} {I : II} {T : TT} {Q : QQ} {y0 : Int32} (hq : t_Coach_canDo_28_37 E I T Q y0) : ev E 105 37 [none, none, none, none] [(.int y0)] I T Q := by
  unfold t_Coach_canDo_28_37 at hq
  exact ev_retb rfl rfl hq.1 hq.2
def t_Coach_canDo_28_30 (E : MEnv) (I : II) (T : TT) (Q : QQ) : Prop := ev E 116 0 [some (.ref 28)] [] I T (KI (fun v1 I1 T1 => (900 ≤ v1 → (t_Coach_canDo_28_37 E I1 T1 Q 0)) ∧ (¬ (900 ≤ v1) → (t_Coach_canDo_28_37 E I1 T1 Q 1))) (fun x I1 T1 => Q (.inr x) I1 T1))
theorem s_Coach_canDo_28_30 {E : MEnv} {I : II} {T : TT} {Q : QQ} (hq : t_Coach_canDo_28_30 E I T Q) : ev E 105 30 [some (.ref 28), none, none, none] [] I T Q := by
  unfold t_Coach_canDo_28_30 at hq
  refine ev_seq 1 (ip' := 31) (loc' := [some (.ref 28), none, none, none]) (st' := [(.ref 28)]) (I1 := I) (T1 := T) rfl ?_
  refine ev_callI rfl rfl rfl (fun v1 I1 T1 hq => ?_) (fun x I1 T1 hq => ?_) hq
  · refine ev_seq 1 (ip' := 33) (loc' := [some (.ref 28), none, none, none]) (st' := [(.int 900), (.int v1)]) (I1 := I1) (T1 := T1) rfl ?_
    refine ev_br (p := 900 ≤ v1) (a := 36) (b := 34) (st' := []) inferInstance rfl rfl (fun hb => ?_) (fun hb => ?_)
    · have hq := hq.1 hb
      refine ev_seq 1 (ip' := 37) (loc' := [some (.ref 28), none, none, none]) (st' := [(.int 0)]) (I1 := I1) (T1 := T1) rfl ?_
      refine ev_fg [false, true, true, true] (loc' := [none, none, none, none]) rfl ?_
      exact s_Coach_canDo_28_37 (T := T1) hq
    · have hq := hq.2 hb
      refine ev_seq 2 (ip' := 37) (loc' := [some (.ref 28), none, none, none]) (st' := [(.int 1)]) (I1 := I1) (T1 := T1) rfl ?_
      refine ev_fg [false, true, true, true] (loc' := [none, none, none, none]) rfl ?_
      exact s_Coach_canDo_28_37 (T := T1) hq
  · exact ⟨by decide, hq⟩
def t_Coach_canDo_28_38 (E : MEnv) (I : II) (T : TT) (Q : QQ) : Prop := Q (.inl (some (.int 0))) I T
theorem s_Coach_canDo_28_38 {E : MEnv} {I : II} {T : TT} {Q : QQ} (hq : t_Coach_canDo_28_38 E I T Q) : ev E 105 38 [none, none, none, none] [] I T Q := by
  unfold t_Coach_canDo_28_38 at hq
  refine ev_seq 1 (ip' := 39) (loc' := [none, none, none, none]) (st' := [(.int 0)]) (I1 := I) (T1 := T) rfl ?_
  exact ev_ret rfl rfl hq
/-- FeltHarness$Coach.canDrive()Z -/
def t_Coach_canDrive_28_12 (E : MEnv) (I : II) (T : TT) (Q : QQ) (y0 : Int32) : Prop := (y0 = 0 ∨ y0 = 1) ∧ Q (.inl (some (.int y0))) I T
theorem s_Coach_canDrive_28_12 {E : MEnv} {I : II} {T : TT} {Q : QQ} {y0 : Int32} (hq : t_Coach_canDrive_28_12 E I T Q y0) : ev E 114 12 [none] [(.int y0)] I T Q := by
  unfold t_Coach_canDrive_28_12 at hq
  exact ev_retb rfl rfl hq.1 hq.2
def t_Coach_canDrive_28_11 (E : MEnv) (I : II) (T : TT) (Q : QQ) : Prop := t_Coach_canDrive_28_12 E I T Q 0
theorem s_Coach_canDrive_28_11 {E : MEnv} {I : II} {T : TT} {Q : QQ} (hq : t_Coach_canDrive_28_11 E I T Q) : ev E 114 11 [none] [] I T Q := by
  unfold t_Coach_canDrive_28_11 at hq
  refine ev_seq 1 (ip' := 12) (loc' := [none]) (st' := [(.int 0)]) (I1 := I) (T1 := T) rfl ?_
  exact s_Coach_canDrive_28_12 (T := T) hq
def t_Coach_canDrive_28_0 (E : MEnv) (I : II) (T : TT) (Q : QQ) : Prop := ev E 112 0 [some (.ref 28), none, none] [] I T (KI (fun v1 I1 T1 => (v1 = 0 → (t_Coach_canDrive_28_11 E I1 T1 Q )) ∧ (¬ (v1 = 0) → (ev E 115 0 [some (.ref 28)] [] I1 T1 (KI (fun v2 I2 T2 => ((I2 3 6) ≤ v2 → (t_Coach_canDrive_28_11 E I2 T2 Q )) ∧ (¬ ((I2 3 6) ≤ v2) → (t_Coach_canDrive_28_12 E I2 T2 Q 1))) (fun x I1 T1 => Q (.inr x) I1 T1))))) (fun x I1 T1 => Q (.inr x) I1 T1))
theorem s_Coach_canDrive_28_0 {E : MEnv} {I : II} {T : TT} {Q : QQ} (hq : t_Coach_canDrive_28_0 E I T Q) : ev E 114 0 [some (.ref 28)] [] I T Q := by
  unfold t_Coach_canDrive_28_0 at hq
  refine ev_seq 1 (ip' := 1) (loc' := [some (.ref 28)]) (st' := [(.ref 28)]) (I1 := I) (T1 := T) rfl ?_
  refine ev_callI rfl rfl rfl (fun v1 I1 T1 hq => ?_) (fun x I1 T1 hq => ?_) hq
  · refine ev_br (p := v1 = 0) (a := 11) (b := 3) (st' := []) inferInstance rfl rfl (fun hb => ?_) (fun hb => ?_)
    · have hq := hq.1 hb
      refine ev_fg [false] (loc' := [none]) rfl ?_
      exact s_Coach_canDrive_28_11 (T := T1) hq
    · have hq := hq.2 hb
      refine ev_seq 1 (ip' := 4) (loc' := [some (.ref 28)]) (st' := [(.ref 28)]) (I1 := I1) (T1 := T1) rfl ?_
      refine ev_callI rfl rfl rfl (fun v2 I2 T2 hq => ?_) (fun x I1 T1 hq => ?_) hq
      · refine ev_seq 3 (ip' := 8) (loc' := [some (.ref 28)]) (st' := [(.int (I2 3 6)), (.int v2)]) (I1 := I2) (T1 := T2) rfl ?_
        refine ev_br (p := (I2 3 6) ≤ v2) (a := 11) (b := 9) (st' := []) inferInstance rfl rfl (fun hb => ?_) (fun hb => ?_)
        · have hq := hq.1 hb
          refine ev_fg [false] (loc' := [none]) rfl ?_
          exact s_Coach_canDrive_28_11 (T := T2) hq
        · have hq := hq.2 hb
          refine ev_seq 2 (ip' := 12) (loc' := [some (.ref 28)]) (st' := [(.int 1)]) (I1 := I2) (T1 := T2) rfl ?_
          refine ev_fg [false] (loc' := [none]) rfl ?_
          exact s_Coach_canDrive_28_12 (T := T2) hq
      · exact ⟨by decide, hq⟩
  · exact ⟨by decide, hq⟩
/-- FeltHarness$Coach.canDrive()Z -/
def t_Coach_canDrive_30_12 (E : MEnv) (I : II) (T : TT) (Q : QQ) (y0 : Int32) : Prop := (y0 = 0 ∨ y0 = 1) ∧ Q (.inl (some (.int y0))) I T
theorem s_Coach_canDrive_30_12 {E : MEnv} {I : II} {T : TT} {Q : QQ} {y0 : Int32} (hq : t_Coach_canDrive_30_12 E I T Q y0) : ev E 114 12 [none] [(.int y0)] I T Q := by
  unfold t_Coach_canDrive_30_12 at hq
  exact ev_retb rfl rfl hq.1 hq.2
def t_Coach_canDrive_30_11 (E : MEnv) (I : II) (T : TT) (Q : QQ) : Prop := t_Coach_canDrive_30_12 E I T Q 0
theorem s_Coach_canDrive_30_11 {E : MEnv} {I : II} {T : TT} {Q : QQ} (hq : t_Coach_canDrive_30_11 E I T Q) : ev E 114 11 [none] [] I T Q := by
  unfold t_Coach_canDrive_30_11 at hq
  refine ev_seq 1 (ip' := 12) (loc' := [none]) (st' := [(.int 0)]) (I1 := I) (T1 := T) rfl ?_
  exact s_Coach_canDrive_30_12 (T := T) hq
def t_Coach_canDrive_30_0 (E : MEnv) (I : II) (T : TT) (Q : QQ) : Prop := ev E 112 0 [some (.ref 30), none, none] [] I T (KI (fun v1 I1 T1 => (v1 = 0 → (t_Coach_canDrive_30_11 E I1 T1 Q )) ∧ (¬ (v1 = 0) → (ev E 115 0 [some (.ref 30)] [] I1 T1 (KI (fun v2 I2 T2 => ((I2 3 6) ≤ v2 → (t_Coach_canDrive_30_11 E I2 T2 Q )) ∧ (¬ ((I2 3 6) ≤ v2) → (t_Coach_canDrive_30_12 E I2 T2 Q 1))) (fun x I1 T1 => Q (.inr x) I1 T1))))) (fun x I1 T1 => Q (.inr x) I1 T1))
theorem s_Coach_canDrive_30_0 {E : MEnv} {I : II} {T : TT} {Q : QQ} (hq : t_Coach_canDrive_30_0 E I T Q) : ev E 114 0 [some (.ref 30)] [] I T Q := by
  unfold t_Coach_canDrive_30_0 at hq
  refine ev_seq 1 (ip' := 1) (loc' := [some (.ref 30)]) (st' := [(.ref 30)]) (I1 := I) (T1 := T) rfl ?_
  refine ev_callI rfl rfl rfl (fun v1 I1 T1 hq => ?_) (fun x I1 T1 hq => ?_) hq
  · refine ev_br (p := v1 = 0) (a := 11) (b := 3) (st' := []) inferInstance rfl rfl (fun hb => ?_) (fun hb => ?_)
    · have hq := hq.1 hb
      refine ev_fg [false] (loc' := [none]) rfl ?_
      exact s_Coach_canDrive_30_11 (T := T1) hq
    · have hq := hq.2 hb
      refine ev_seq 1 (ip' := 4) (loc' := [some (.ref 30)]) (st' := [(.ref 30)]) (I1 := I1) (T1 := T1) rfl ?_
      refine ev_callI rfl rfl rfl (fun v2 I2 T2 hq => ?_) (fun x I1 T1 hq => ?_) hq
      · refine ev_seq 3 (ip' := 8) (loc' := [some (.ref 30)]) (st' := [(.int (I2 3 6)), (.int v2)]) (I1 := I2) (T1 := T2) rfl ?_
        refine ev_br (p := (I2 3 6) ≤ v2) (a := 11) (b := 9) (st' := []) inferInstance rfl rfl (fun hb => ?_) (fun hb => ?_)
        · have hq := hq.1 hb
          refine ev_fg [false] (loc' := [none]) rfl ?_
          exact s_Coach_canDrive_30_11 (T := T2) hq
        · have hq := hq.2 hb
          refine ev_seq 2 (ip' := 12) (loc' := [some (.ref 30)]) (st' := [(.int 1)]) (I1 := I2) (T1 := T2) rfl ?_
          refine ev_fg [false] (loc' := [none]) rfl ?_
          exact s_Coach_canDrive_30_12 (T := T2) hq
      · exact ⟨by decide, hq⟩
  · exact ⟨by decide, hq⟩
/-- FeltHarness$Coach.canPut(II)Z -/
def t_Coach_canPut_28_25 (E : MEnv) (I : II) (T : TT) (Q : QQ) (y0 : Int32) : Prop := (y0 = 0 ∨ y0 = 1) ∧ Q (.inl (some (.int y0))) I T
theorem s_Coach_canPut_28_25 {E : MEnv} {I : II} {T : TT} {Q : QQ} {y0 : Int32} (hq : t_Coach_canPut_28_25 E I T Q y0) : ev E 106 25 [none, none, none] [(.int y0)] I T Q := by
  unfold t_Coach_canPut_28_25 at hq
  exact ev_retb rfl rfl hq.1 hq.2
def t_Coach_canPut_28_24 (E : MEnv) (I : II) (T : TT) (Q : QQ) : Prop := t_Coach_canPut_28_25 E I T Q 0
theorem s_Coach_canPut_28_24 {E : MEnv} {I : II} {T : TT} {Q : QQ} (hq : t_Coach_canPut_28_24 E I T Q) : ev E 106 24 [none, none, none] [] I T Q := by
  unfold t_Coach_canPut_28_24 at hq
  refine ev_seq 1 (ip' := 25) (loc' := [none, none, none]) (st' := [(.int 0)]) (I1 := I) (T1 := T) rfl ?_
  exact s_Coach_canPut_28_25 (T := T) hq
def t_Coach_canPut_28_0 (E : MEnv) (I : II) (T : TT) (Q : QQ) (x1 : Int32) (x2 : Int32) : Prop := ev E 107 0 [some (.ref 3), some (.int x1)] [] I T (KI (fun v1 I1 T1 => (v1 = 0 → (t_Coach_canPut_28_24 E I1 T1 Q )) ∧ (¬ (v1 = 0) → (ev E 108 0 [some (.ref 28), some (.int x1)] [] I1 T1 (KI (fun v2 I2 T2 => (v2 = 0 → (ev E 110 0 [some (.ref 28), some (.int x2), none] [] I2 T2 (KI (fun v3 I3 T3 => (v3 = (-1) → (ev E 111 0 [some (.ref 3), some (.int x1)] [] I3 T3 (KI (fun v4 I4 T4 => ev E 112 0 [some (.ref 28), none, none] [] I4 T4 (KI (fun v5 I5 T5 => ((v4 &&& v5) = 0 → (t_Coach_canPut_28_25 E I5 T5 Q 1)) ∧ (¬ ((v4 &&& v5) = 0) → (t_Coach_canPut_28_24 E I5 T5 Q ))) (fun x I1 T1 => Q (.inr x) I1 T1))) (fun x I1 T1 => Q (.inr x) I1 T1)))) ∧ (¬ (v3 = (-1)) → (t_Coach_canPut_28_24 E I3 T3 Q ))) (fun x I1 T1 => Q (.inr x) I1 T1)))) ∧ (¬ (v2 = 0) → (t_Coach_canPut_28_24 E I2 T2 Q ))) (fun x I1 T1 => Q (.inr x) I1 T1))))) (fun x I1 T1 => Q (.inr x) I1 T1))
theorem s_Coach_canPut_28_0 {E : MEnv} {I : II} {T : TT} {Q : QQ} {x1 : Int32} {x2 : Int32} (hq : t_Coach_canPut_28_0 E I T Q x1 x2) : ev E 106 0 [some (.ref 28), some (.int x1), some (.int x2)] [] I T Q := by
  unfold t_Coach_canPut_28_0 at hq
  refine ev_seq 3 (ip' := 3) (loc' := [some (.ref 28), some (.int x1), some (.int x2)]) (st' := [(.int x1), (.ref 3)]) (I1 := I) (T1 := T) rfl ?_
  refine ev_callI rfl rfl rfl (fun v1 I1 T1 hq => ?_) (fun x I1 T1 hq => ?_) hq
  · refine ev_br (p := v1 = 0) (a := 24) (b := 5) (st' := []) inferInstance rfl rfl (fun hb => ?_) (fun hb => ?_)
    · have hq := hq.1 hb
      refine ev_fg [false, false, false] (loc' := [none, none, none]) rfl ?_
      exact s_Coach_canPut_28_24 (T := T1) hq
    · have hq := hq.2 hb
      refine ev_seq 2 (ip' := 7) (loc' := [some (.ref 28), some (.int x1), some (.int x2)]) (st' := [(.int x1), (.ref 28)]) (I1 := I1) (T1 := T1) rfl ?_
      refine ev_callI rfl rfl rfl (fun v2 I2 T2 hq => ?_) (fun x I1 T1 hq => ?_) hq
      · refine ev_br (p := v2 = 0) (a := 9) (b := 24) (st' := []) inferInstance rfl rfl (fun hb => ?_) (fun hb => ?_)
        · have hq := hq.1 hb
          refine ev_seq 2 (ip' := 11) (loc' := [some (.ref 28), some (.int x1), some (.int x2)]) (st' := [(.int x2), (.ref 28)]) (I1 := I2) (T1 := T2) rfl ?_
          refine ev_callI rfl rfl rfl (fun v3 I3 T3 hq => ?_) (fun x I1 T1 hq => ?_) hq
          · refine ev_seq 1 (ip' := 13) (loc' := [some (.ref 28), some (.int x1), some (.int x2)]) (st' := [(.int (-1)), (.int v3)]) (I1 := I3) (T1 := T3) rfl ?_
            refine ev_br (p := v3 = (-1)) (a := 14) (b := 24) (st' := []) inferInstance rfl rfl (fun hb => ?_) (fun hb => ?_)
            · have hq := hq.1 hb
              refine ev_seq 3 (ip' := 17) (loc' := [some (.ref 28), some (.int x1), some (.int x2)]) (st' := [(.int x1), (.ref 3)]) (I1 := I3) (T1 := T3) rfl ?_
              refine ev_callI rfl rfl rfl (fun v4 I4 T4 hq => ?_) (fun x I1 T1 hq => ?_) hq
              · refine ev_seq 1 (ip' := 19) (loc' := [some (.ref 28), some (.int x1), some (.int x2)]) (st' := [(.ref 28), (.int v4)]) (I1 := I4) (T1 := T4) rfl ?_
                refine ev_callI rfl rfl rfl (fun v5 I5 T5 hq => ?_) (fun x I1 T1 hq => ?_) hq
                · refine ev_seq 1 (ip' := 21) (loc' := [some (.ref 28), some (.int x1), some (.int x2)]) (st' := [(.int (v4 &&& v5))]) (I1 := I5) (T1 := T5) rfl ?_
                  refine ev_br (p := (v4 &&& v5) = 0) (a := 22) (b := 24) (st' := []) inferInstance rfl rfl (fun hb => ?_) (fun hb => ?_)
                  · have hq := hq.1 hb
                    refine ev_seq 2 (ip' := 25) (loc' := [some (.ref 28), some (.int x1), some (.int x2)]) (st' := [(.int 1)]) (I1 := I5) (T1 := T5) rfl ?_
                    refine ev_fg [false, false, false] (loc' := [none, none, none]) rfl ?_
                    exact s_Coach_canPut_28_25 (T := T5) hq
                  · have hq := hq.2 hb
                    refine ev_fg [false, false, false] (loc' := [none, none, none]) rfl ?_
                    exact s_Coach_canPut_28_24 (T := T5) hq
                · exact ⟨by decide, hq⟩
              · exact ⟨by decide, hq⟩
            · have hq := hq.2 hb
              refine ev_fg [false, false, false] (loc' := [none, none, none]) rfl ?_
              exact s_Coach_canPut_28_24 (T := T3) hq
          · exact ⟨by decide, hq⟩
        · have hq := hq.2 hb
          refine ev_fg [false, false, false] (loc' := [none, none, none]) rfl ?_
          exact s_Coach_canPut_28_24 (T := T2) hq
      · exact ⟨by decide, hq⟩
  · exact ⟨by decide, hq⟩
/-- FeltHarness$Coach.canPut(II)Z -/
def t_Coach_canPut_30_25 (E : MEnv) (I : II) (T : TT) (Q : QQ) (y0 : Int32) : Prop := (y0 = 0 ∨ y0 = 1) ∧ Q (.inl (some (.int y0))) I T
theorem s_Coach_canPut_30_25 {E : MEnv} {I : II} {T : TT} {Q : QQ} {y0 : Int32} (hq : t_Coach_canPut_30_25 E I T Q y0) : ev E 106 25 [none, none, none] [(.int y0)] I T Q := by
  unfold t_Coach_canPut_30_25 at hq
  exact ev_retb rfl rfl hq.1 hq.2
def t_Coach_canPut_30_24 (E : MEnv) (I : II) (T : TT) (Q : QQ) : Prop := t_Coach_canPut_30_25 E I T Q 0
theorem s_Coach_canPut_30_24 {E : MEnv} {I : II} {T : TT} {Q : QQ} (hq : t_Coach_canPut_30_24 E I T Q) : ev E 106 24 [none, none, none] [] I T Q := by
  unfold t_Coach_canPut_30_24 at hq
  refine ev_seq 1 (ip' := 25) (loc' := [none, none, none]) (st' := [(.int 0)]) (I1 := I) (T1 := T) rfl ?_
  exact s_Coach_canPut_30_25 (T := T) hq
def t_Coach_canPut_30_0 (E : MEnv) (I : II) (T : TT) (Q : QQ) (x1 : Int32) (x2 : Int32) : Prop := ev E 107 0 [some (.ref 3), some (.int x1)] [] I T (KI (fun v1 I1 T1 => (v1 = 0 → (t_Coach_canPut_30_24 E I1 T1 Q )) ∧ (¬ (v1 = 0) → (ev E 108 0 [some (.ref 30), some (.int x1)] [] I1 T1 (KI (fun v2 I2 T2 => (v2 = 0 → (ev E 110 0 [some (.ref 30), some (.int x2), none] [] I2 T2 (KI (fun v3 I3 T3 => (v3 = (-1) → (ev E 111 0 [some (.ref 3), some (.int x1)] [] I3 T3 (KI (fun v4 I4 T4 => ev E 112 0 [some (.ref 30), none, none] [] I4 T4 (KI (fun v5 I5 T5 => ((v4 &&& v5) = 0 → (t_Coach_canPut_30_25 E I5 T5 Q 1)) ∧ (¬ ((v4 &&& v5) = 0) → (t_Coach_canPut_30_24 E I5 T5 Q ))) (fun x I1 T1 => Q (.inr x) I1 T1))) (fun x I1 T1 => Q (.inr x) I1 T1)))) ∧ (¬ (v3 = (-1)) → (t_Coach_canPut_30_24 E I3 T3 Q ))) (fun x I1 T1 => Q (.inr x) I1 T1)))) ∧ (¬ (v2 = 0) → (t_Coach_canPut_30_24 E I2 T2 Q ))) (fun x I1 T1 => Q (.inr x) I1 T1))))) (fun x I1 T1 => Q (.inr x) I1 T1))
theorem s_Coach_canPut_30_0 {E : MEnv} {I : II} {T : TT} {Q : QQ} {x1 : Int32} {x2 : Int32} (hq : t_Coach_canPut_30_0 E I T Q x1 x2) : ev E 106 0 [some (.ref 30), some (.int x1), some (.int x2)] [] I T Q := by
  unfold t_Coach_canPut_30_0 at hq
  refine ev_seq 3 (ip' := 3) (loc' := [some (.ref 30), some (.int x1), some (.int x2)]) (st' := [(.int x1), (.ref 3)]) (I1 := I) (T1 := T) rfl ?_
  refine ev_callI rfl rfl rfl (fun v1 I1 T1 hq => ?_) (fun x I1 T1 hq => ?_) hq
  · refine ev_br (p := v1 = 0) (a := 24) (b := 5) (st' := []) inferInstance rfl rfl (fun hb => ?_) (fun hb => ?_)
    · have hq := hq.1 hb
      refine ev_fg [false, false, false] (loc' := [none, none, none]) rfl ?_
      exact s_Coach_canPut_30_24 (T := T1) hq
    · have hq := hq.2 hb
      refine ev_seq 2 (ip' := 7) (loc' := [some (.ref 30), some (.int x1), some (.int x2)]) (st' := [(.int x1), (.ref 30)]) (I1 := I1) (T1 := T1) rfl ?_
      refine ev_callI rfl rfl rfl (fun v2 I2 T2 hq => ?_) (fun x I1 T1 hq => ?_) hq
      · refine ev_br (p := v2 = 0) (a := 9) (b := 24) (st' := []) inferInstance rfl rfl (fun hb => ?_) (fun hb => ?_)
        · have hq := hq.1 hb
          refine ev_seq 2 (ip' := 11) (loc' := [some (.ref 30), some (.int x1), some (.int x2)]) (st' := [(.int x2), (.ref 30)]) (I1 := I2) (T1 := T2) rfl ?_
          refine ev_callI rfl rfl rfl (fun v3 I3 T3 hq => ?_) (fun x I1 T1 hq => ?_) hq
          · refine ev_seq 1 (ip' := 13) (loc' := [some (.ref 30), some (.int x1), some (.int x2)]) (st' := [(.int (-1)), (.int v3)]) (I1 := I3) (T1 := T3) rfl ?_
            refine ev_br (p := v3 = (-1)) (a := 14) (b := 24) (st' := []) inferInstance rfl rfl (fun hb => ?_) (fun hb => ?_)
            · have hq := hq.1 hb
              refine ev_seq 3 (ip' := 17) (loc' := [some (.ref 30), some (.int x1), some (.int x2)]) (st' := [(.int x1), (.ref 3)]) (I1 := I3) (T1 := T3) rfl ?_
              refine ev_callI rfl rfl rfl (fun v4 I4 T4 hq => ?_) (fun x I1 T1 hq => ?_) hq
              · refine ev_seq 1 (ip' := 19) (loc' := [some (.ref 30), some (.int x1), some (.int x2)]) (st' := [(.ref 30), (.int v4)]) (I1 := I4) (T1 := T4) rfl ?_
                refine ev_callI rfl rfl rfl (fun v5 I5 T5 hq => ?_) (fun x I1 T1 hq => ?_) hq
                · refine ev_seq 1 (ip' := 21) (loc' := [some (.ref 30), some (.int x1), some (.int x2)]) (st' := [(.int (v4 &&& v5))]) (I1 := I5) (T1 := T5) rfl ?_
                  refine ev_br (p := (v4 &&& v5) = 0) (a := 22) (b := 24) (st' := []) inferInstance rfl rfl (fun hb => ?_) (fun hb => ?_)
                  · have hq := hq.1 hb
                    refine ev_seq 2 (ip' := 25) (loc' := [some (.ref 30), some (.int x1), some (.int x2)]) (st' := [(.int 1)]) (I1 := I5) (T1 := T5) rfl ?_
                    refine ev_fg [false, false, false] (loc' := [none, none, none]) rfl ?_
                    exact s_Coach_canPut_30_25 (T := T5) hq
                  · have hq := hq.2 hb
                    refine ev_fg [false, false, false] (loc' := [none, none, none]) rfl ?_
                    exact s_Coach_canPut_30_24 (T := T5) hq
                · exact ⟨by decide, hq⟩
              · exact ⟨by decide, hq⟩
            · have hq := hq.2 hb
              refine ev_fg [false, false, false] (loc' := [none, none, none]) rfl ?_
              exact s_Coach_canPut_30_24 (T := T3) hq
          · exact ⟨by decide, hq⟩
        · have hq := hq.2 hb
          refine ev_fg [false, false, false] (loc' := [none, none, none]) rfl ?_
          exact s_Coach_canPut_30_24 (T := T2) hq
      · exact ⟨by decide, hq⟩
  · exact ⟨by decide, hq⟩
/-- FeltHarness$Coach.change(II)V -/
def t_Coach_change_30_0 (E : MEnv) (I : II) (T : TT) (Q : QQ) (x1 : Int32) (x2 : Int32) : Prop := ev E 110 0 [some (.ref 30), some (.int x1), none] [] I T (KI (fun v1 I1 T1 => ev E 110 0 [some (.ref 30), some (.int x2), none] [] I1 T1 (KI (fun v2 I2 T2 => ev E 117 0 [some (.ref 30), some (.int v1), some (.int x2)] [] I2 T2 (KV (fun I3 T3 => ev E 117 0 [some (.ref 30), some (.int v2), some (.int x1)] [] I3 T3 (KV (fun I4 T4 => Q (.inl none) I4 T4) (fun x I1 T1 => Q (.inr x) I1 T1))) (fun x I1 T1 => Q (.inr x) I1 T1))) (fun x I1 T1 => Q (.inr x) I1 T1))) (fun x I1 T1 => Q (.inr x) I1 T1))
theorem s_Coach_change_30_0 {E : MEnv} {I : II} {T : TT} {Q : QQ} {x1 : Int32} {x2 : Int32} (hq : t_Coach_change_30_0 E I T Q x1 x2) : ev E 245 0 [some (.ref 30), some (.int x1), some (.int x2), none, none] [] I T Q := by
  unfold t_Coach_change_30_0 at hq
  refine ev_seq 2 (ip' := 2) (loc' := [some (.ref 30), some (.int x1), some (.int x2), none, none]) (st' := [(.int x1), (.ref 30)]) (I1 := I) (T1 := T) rfl ?_
  refine ev_callI rfl rfl rfl (fun v1 I1 T1 hq => ?_) (fun x I1 T1 hq => ?_) hq
  · refine ev_seq 3 (ip' := 6) (loc' := [some (.ref 30), some (.int x1), some (.int x2), some (.int v1), none]) (st' := [(.int x2), (.ref 30)]) (I1 := I1) (T1 := T1) rfl ?_
    refine ev_callI rfl rfl rfl (fun v2 I2 T2 hq => ?_) (fun x I1 T1 hq => ?_) hq
    · refine ev_seq 4 (ip' := 11) (loc' := [some (.ref 30), some (.int x1), some (.int x2), some (.int v1), some (.int v2)]) (st' := [(.int x2), (.int v1), (.ref 30)]) (I1 := I2) (T1 := T2) rfl ?_
      refine ev_callV rfl rfl rfl (fun I3 T3 hq => ?_) (fun x I1 T1 hq => ?_) hq
      · refine ev_seq 3 (ip' := 15) (loc' := [some (.ref 30), some (.int x1), some (.int x2), some (.int v1), some (.int v2)]) (st' := [(.int x1), (.int v2), (.ref 30)]) (I1 := I3) (T1 := T3) rfl ?_
        refine ev_callV rfl rfl rfl (fun I4 T4 hq => ?_) (fun x I1 T1 hq => ?_) hq
        · exact ev_ret rfl rfl hq
        · exact ⟨by decide, hq⟩
      · exact ⟨by decide, hq⟩
    · exact ⟨by decide, hq⟩
  · exact ⟨by decide, hq⟩
/-- FeltHarness$Coach.copyFrom(LFeltHarness$Coach;)V -/
def t_Coach_copyFrom_30_28_0 (E : MEnv) (I : II) (T : TT) (Q : QQ) : Prop := Q (.inl none) (m_row I 31 (va_cpy (I 29) (I 31) 0 0 29)) T
theorem s_Coach_copyFrom_30_28_0 {E : MEnv} {I : II} {T : TT} {Q : QQ} (hq : t_Coach_copyFrom_30_28_0 E I T Q) : ev E 212 0 [some (.ref 30), some (.ref 28)] [] I T Q := by
  unfold t_Coach_copyFrom_30_28_0 at hq
  refine ev_seq 8 (ip' := 8) (loc' := [some (.ref 30), some (.ref 28)]) (st' := []) (I1 := m_row I 31 (va_cpy (I 29) (I 31) 0 0 29)) (T1 := T) rfl ?_
  exact ev_ret rfl rfl hq
/-- FeltHarness$Coach.day()I -/
def t_Coach_day_28_0 (E : MEnv) (I : II) (T : TT) (Q : QQ) : Prop := Q (.inl (some (.int (I 29 24)))) I T
theorem s_Coach_day_28_0 {E : MEnv} {I : II} {T : TT} {Q : QQ} (hq : t_Coach_day_28_0 E I T Q) : ev E 116 0 [some (.ref 28)] [] I T Q := by
  unfold t_Coach_day_28_0 at hq
  refine ev_seq 4 (ip' := 4) (loc' := [some (.ref 28)]) (st' := [(.int (I 29 24))]) (I1 := I) (T1 := T) rfl ?_
  exact ev_ret rfl rfl hq
/-- FeltHarness$Coach.day()I -/
def t_Coach_day_30_0 (E : MEnv) (I : II) (T : TT) (Q : QQ) : Prop := Q (.inl (some (.int (I 31 24)))) I T
theorem s_Coach_day_30_0 {E : MEnv} {I : II} {T : TT} {Q : QQ} (hq : t_Coach_day_30_0 E I T Q) : ev E 116 0 [some (.ref 30)] [] I T Q := by
  unfold t_Coach_day_30_0 at hq
  refine ev_seq 4 (ip' := 4) (loc' := [some (.ref 30)]) (st' := [(.int (I 31 24))]) (I1 := I) (T1 := T) rfl ?_
  exact ev_ret rfl rfl hq
/-- FeltHarness$Coach.driveOver(I)V -/
def t_Coach_driveOver_28_73 (E : MEnv) (I : II) (T : TT) (Q : QQ) : Prop := Q (.inl none) I T
theorem s_Coach_driveOver_28_73 {E : MEnv} {I : II} {T : TT} {Q : QQ} (hq : t_Coach_driveOver_28_73 E I T Q) : ev E 120 73 [none, none, none, none, none] [] I T Q := by
  unfold t_Coach_driveOver_28_73 at hq
  exact ev_ret rfl rfl hq
def t_Coach_driveOver_28_58 (E : MEnv) (I : II) (T : TT) (Q : QQ) (x2 : Int32) : Prop := ev E 27 0 [some (.int x2), some (.int 0), some (.int 2)] [] I T (KI (fun v1 I1 T1 => (v1 = 0 → (t_Coach_driveOver_28_73 E I1 T1 Q )) ∧ (¬ (v1 = 0) → ((¬ (26 + x2) < 0 ∧ (26 + x2).toNatClampNeg < 29) ∧ ((¬ (26 + x2) < 0 ∧ (26 + x2).toNatClampNeg < 29) ∧ (t_Coach_driveOver_28_73 E (m_up I1 29 (26 + x2).toNatClampNeg ((I1 29 (26 + x2).toNatClampNeg) + 1)) T1 Q ))))) (fun _ _ _ => False))
theorem s_Coach_driveOver_28_58 {E : MEnv} {I : II} {T : TT} {Q : QQ} {x2 : Int32} (hq : t_Coach_driveOver_28_58 E I T Q x2) : ev E 120 58 [some (.ref 28), none, some (.int x2), none, none] [] I T Q := by
  unfold t_Coach_driveOver_28_58 at hq
  refine ev_seq 3 (ip' := 61) (loc' := [some (.ref 28), none, some (.int x2), none, none]) (st' := [(.int 2), (.int 0), (.int x2)]) (I1 := I) (T1 := T) rfl ?_
  refine ev_callI rfl rfl rfl (fun v1 I1 T1 hq => ?_) (fun x I1 T1 hq => ?_) hq
  · refine ev_br (p := v1 = 0) (a := 73) (b := 63) (st' := []) inferInstance rfl rfl (fun hb => ?_) (fun hb => ?_)
    · have hq := hq.1 hb
      refine ev_fg [false, true, false, true, true] (loc' := [none, none, none, none, none]) rfl ?_
      exact s_Coach_driveOver_28_73 (T := T1) hq
    · have hq := hq.2 hb
      refine ev_seq 6 (ip' := 69) (loc' := [some (.ref 28), none, some (.int x2), none, none]) (st' := [(.int (26 + x2)), (.ref 29), (.int (26 + x2)), (.ref 29)]) (I1 := I1) (T1 := T1) rfl ?_
      obtain ⟨hg, hq⟩ := hq
      refine ev_iald rfl rfl hg ?_
      refine ev_seq 2 (ip' := 72) (loc' := [some (.ref 28), none, some (.int x2), none, none]) (st' := [(.int ((I1 29 (26 + x2).toNatClampNeg) + 1)), (.int (26 + x2)), (.ref 29)]) (I1 := I1) (T1 := T1) rfl ?_
      obtain ⟨hg, hq⟩ := hq
      refine ev_iast rfl rfl hg ?_
      refine ev_fg [false, true, false, true, true] (loc' := [none, none, none, none, none]) rfl ?_
      exact s_Coach_driveOver_28_73 (T := T1) hq
  · exact hq.elim
def t_Coach_driveOver_28_37 (E : MEnv) (I : II) (T : TT) (Q : QQ) (x1 : Int32) (x2 : Int32) (y0 : Int32) : Prop := ev E 137 0 [some (.ref 3), some (.int x1)] [] I T (KI (fun v1 I1 T1 => ev E 138 0 [some (.ref 28), some (.int ((y0 + 1) + (v1 / 3))), none] [] I1 T1 (KV (fun I2 T2 => t_Coach_driveOver_28_58 E (m_up I2 29 25 ((I2 29 25) + 1)) T2 Q x2) (fun x I1 T1 => Q (.inr x) I1 T1))) (fun x I1 T1 => Q (.inr x) I1 T1))
theorem s_Coach_driveOver_28_37 {E : MEnv} {I : II} {T : TT} {Q : QQ} {x1 : Int32} {x2 : Int32} {y0 : Int32} (hq : t_Coach_driveOver_28_37 E I T Q x1 x2 y0) : ev E 120 37 [some (.ref 28), some (.int x1), some (.int x2), none, none] [(.int y0)] I T Q := by
  unfold t_Coach_driveOver_28_37 at hq
  refine ev_seq 8 (ip' := 45) (loc' := [some (.ref 28), some (.int x1), some (.int x2), none, some (.int y0)]) (st' := [(.int x1), (.ref 3), (.int (y0 + 1)), (.ref 28)]) (I1 := I) (T1 := T) rfl ?_
  refine ev_callI rfl rfl rfl (fun v1 I1 T1 hq => ?_) (fun x I1 T1 hq => ?_) hq
  · refine ev_seq 3 (ip' := 49) (loc' := [some (.ref 28), some (.int x1), some (.int x2), none, some (.int y0)]) (st' := [(.int ((y0 + 1) + (v1 / 3))), (.ref 28)]) (I1 := I1) (T1 := T1) rfl ?_
    refine ev_callV rfl rfl rfl (fun I2 T2 hq => ?_) (fun x I1 T1 hq => ?_) hq
    · refine ev_seq 8 (ip' := 58) (loc' := [some (.ref 28), some (.int x1), some (.int x2), none, some (.int y0)]) (st' := []) (I1 := m_up I2 29 25 ((I2 29 25) + 1)) (T1 := T2) rfl ?_
      refine ev_fg [true, false, true, true, false] (loc' := [some (.ref 28), none, some (.int x2), none, none]) rfl ?_
      exact s_Coach_driveOver_28_58 (T := T2) hq
    · exact ⟨by decide, hq⟩
  · exact ⟨by decide, hq⟩
def t_Coach_driveOver_28_0 (E : MEnv) (I : II) (T : TT) (Q : QQ) (x1 : Int32) : Prop := ev E 121 0 [some (.ref 28), none, none, none, none] [] I T (KV (fun I1 T1 => ev E 133 0 [some (.ref 28), some (.int x1)] [] I1 T1 (KI (fun v2 I2 T2 => (v2 = 0 → (ev E 138 0 [some (.ref 28), some (.int 2), none] [] I2 T2 (KV (fun I3 T3 => t_Coach_driveOver_28_58 E I3 T3 Q v2) (fun x I1 T1 => Q (.inr x) I1 T1)))) ∧ (¬ (v2 = 0) → ((v2 = 1 → (ev E 138 0 [some (.ref 28), some (.int 5), none] [] I2 T2 (KV (fun I4 T4 => ev E 140 0 [some (.ref 28), none] [] I4 T4 (KV (fun I5 T5 => t_Coach_driveOver_28_58 E I5 T5 Q v2) (fun x I1 T1 => Q (.inr x) I1 T1))) (fun x I1 T1 => Q (.inr x) I1 T1)))) ∧ (¬ (v2 = 1) → ((((I2 28 3) + (I2 28 4)) ≤ 0 → (t_Coach_driveOver_28_37 E I2 T2 Q x1 v2 0)) ∧ (¬ (((I2 28 3) + (I2 28 4)) ≤ 0) → (ev E 135 0 [some (.ref 3), some (.int x1)] [] I2 T2 (KI (fun v6 I6 T6 => ((I2 28 3) + (I2 28 4)) ≠ 0 ∧ (t_Coach_driveOver_28_37 E I6 T6 Q x1 v2 (v6 / ((I2 28 3) + (I2 28 4))))) (fun x I1 T1 => Q (.inr x) I1 T1))))))))) (fun x I1 T1 => Q (.inr x) I1 T1))) (fun x I1 T1 => Q (.inr x) I1 T1))
theorem s_Coach_driveOver_28_0 {E : MEnv} {I : II} {T : TT} {Q : QQ} {x1 : Int32} (hq : t_Coach_driveOver_28_0 E I T Q x1) : ev E 120 0 [some (.ref 28), some (.int x1), none, none, none] [] I T Q := by
  unfold t_Coach_driveOver_28_0 at hq
  refine ev_seq 1 (ip' := 1) (loc' := [some (.ref 28), some (.int x1), none, none, none]) (st' := [(.ref 28)]) (I1 := I) (T1 := T) rfl ?_
  refine ev_callV rfl rfl rfl (fun I1 T1 hq => ?_) (fun x I1 T1 hq => ?_) hq
  · refine ev_seq 2 (ip' := 4) (loc' := [some (.ref 28), some (.int x1), none, none, none]) (st' := [(.int x1), (.ref 28)]) (I1 := I1) (T1 := T1) rfl ?_
    refine ev_callI rfl rfl rfl (fun v2 I2 T2 hq => ?_) (fun x I1 T1 hq => ?_) hq
    · refine ev_seq 8 (ip' := 13) (loc' := [some (.ref 28), some (.int x1), some (.int v2), some (.int ((I2 28 3) + (I2 28 4))), none]) (st' := [(.int v2)]) (I1 := I2) (T1 := T2) rfl ?_
      refine ev_br (p := v2 = 0) (a := 14) (b := 18) (st' := []) inferInstance rfl rfl (fun hb => ?_) (fun hb => ?_)
      · have hq := hq.1 hb
        refine ev_seq 2 (ip' := 16) (loc' := [some (.ref 28), some (.int x1), some (.int v2), some (.int ((I2 28 3) + (I2 28 4))), none]) (st' := [(.int 2), (.ref 28)]) (I1 := I2) (T1 := T2) rfl ?_
        refine ev_callV rfl rfl rfl (fun I3 T3 hq => ?_) (fun x I1 T1 hq => ?_) hq
        · refine ev_seq 1 (ip' := 58) (loc' := [some (.ref 28), some (.int x1), some (.int v2), some (.int ((I2 28 3) + (I2 28 4))), none]) (st' := []) (I1 := I3) (T1 := T3) rfl ?_
          refine ev_fg [true, false, true, false, true] (loc' := [some (.ref 28), none, some (.int v2), none, none]) rfl ?_
          exact s_Coach_driveOver_28_58 (T := T3) hq
        · exact ⟨by decide, hq⟩
      · have hq := hq.2 hb
        refine ev_seq 2 (ip' := 20) (loc' := [some (.ref 28), some (.int x1), some (.int v2), some (.int ((I2 28 3) + (I2 28 4))), none]) (st' := [(.int 1), (.int v2)]) (I1 := I2) (T1 := T2) rfl ?_
        refine ev_br (p := v2 = 1) (a := 21) (b := 27) (st' := []) inferInstance rfl rfl (fun hb => ?_) (fun hb => ?_)
        · have hq := hq.1 hb
          refine ev_seq 2 (ip' := 23) (loc' := [some (.ref 28), some (.int x1), some (.int v2), some (.int ((I2 28 3) + (I2 28 4))), none]) (st' := [(.int 5), (.ref 28)]) (I1 := I2) (T1 := T2) rfl ?_
          refine ev_callV rfl rfl rfl (fun I4 T4 hq => ?_) (fun x I1 T1 hq => ?_) hq
          · refine ev_seq 1 (ip' := 25) (loc' := [some (.ref 28), some (.int x1), some (.int v2), some (.int ((I2 28 3) + (I2 28 4))), none]) (st' := [(.ref 28)]) (I1 := I4) (T1 := T4) rfl ?_
            refine ev_callV rfl rfl rfl (fun I5 T5 hq => ?_) (fun x I1 T1 hq => ?_) hq
            · refine ev_seq 1 (ip' := 58) (loc' := [some (.ref 28), some (.int x1), some (.int v2), some (.int ((I2 28 3) + (I2 28 4))), none]) (st' := []) (I1 := I5) (T1 := T5) rfl ?_
              refine ev_fg [true, false, true, false, true] (loc' := [some (.ref 28), none, some (.int v2), none, none]) rfl ?_
              exact s_Coach_driveOver_28_58 (T := T5) hq
            · exact ⟨by decide, hq⟩
          · exact ⟨by decide, hq⟩
        · have hq := hq.2 hb
          refine ev_seq 1 (ip' := 28) (loc' := [some (.ref 28), some (.int x1), some (.int v2), some (.int ((I2 28 3) + (I2 28 4))), none]) (st' := [(.int ((I2 28 3) + (I2 28 4)))]) (I1 := I2) (T1 := T2) rfl ?_
          refine ev_br (p := ((I2 28 3) + (I2 28 4)) ≤ 0) (a := 36) (b := 29) (st' := []) inferInstance rfl rfl (fun hb => ?_) (fun hb => ?_)
          · have hq := hq.1 hb
            refine ev_seq 1 (ip' := 37) (loc' := [some (.ref 28), some (.int x1), some (.int v2), some (.int ((I2 28 3) + (I2 28 4))), none]) (st' := [(.int 0)]) (I1 := I2) (T1 := T2) rfl ?_
            refine ev_fg [true, true, true, false, true] (loc' := [some (.ref 28), some (.int x1), some (.int v2), none, none]) rfl ?_
            exact s_Coach_driveOver_28_37 (T := T2) hq
          · have hq := hq.2 hb
            refine ev_seq 3 (ip' := 32) (loc' := [some (.ref 28), some (.int x1), some (.int v2), some (.int ((I2 28 3) + (I2 28 4))), none]) (st' := [(.int x1), (.ref 3)]) (I1 := I2) (T1 := T2) rfl ?_
            refine ev_callI rfl rfl rfl (fun v6 I6 T6 hq => ?_) (fun x I1 T1 hq => ?_) hq
            · refine ev_seq 1 (ip' := 34) (loc' := [some (.ref 28), some (.int x1), some (.int v2), some (.int ((I2 28 3) + (I2 28 4))), none]) (st' := [(.int ((I2 28 3) + (I2 28 4))), (.int v6)]) (I1 := I6) (T1 := T6) rfl ?_
              obtain ⟨hg, hq⟩ := hq
              refine ev_pr rfl (ev_idiv hg) ?_
              refine ev_seq 1 (ip' := 37) (loc' := [some (.ref 28), some (.int x1), some (.int v2), some (.int ((I2 28 3) + (I2 28 4))), none]) (st' := [(.int (v6 / ((I2 28 3) + (I2 28 4))))]) (I1 := I6) (T1 := T6) rfl ?_
              refine ev_fg [true, true, true, false, true] (loc' := [some (.ref 28), some (.int x1), some (.int v2), none, none]) rfl ?_
              exact s_Coach_driveOver_28_37 (T := T6) hq
            · exact ⟨by decide, hq⟩
    · exact ⟨by decide, hq⟩
  · exact ⟨by decide, hq⟩
/-- FeltHarness$Coach.driveOver(I)V -/
def t_Coach_driveOver_30_73 (E : MEnv) (I : II) (T : TT) (Q : QQ) : Prop := Q (.inl none) I T
theorem s_Coach_driveOver_30_73 {E : MEnv} {I : II} {T : TT} {Q : QQ} (hq : t_Coach_driveOver_30_73 E I T Q) : ev E 120 73 [none, none, none, none, none] [] I T Q := by
  unfold t_Coach_driveOver_30_73 at hq
  exact ev_ret rfl rfl hq
def t_Coach_driveOver_30_58 (E : MEnv) (I : II) (T : TT) (Q : QQ) (x2 : Int32) : Prop := ev E 27 0 [some (.int x2), some (.int 0), some (.int 2)] [] I T (KI (fun v1 I1 T1 => (v1 = 0 → (t_Coach_driveOver_30_73 E I1 T1 Q )) ∧ (¬ (v1 = 0) → ((¬ (26 + x2) < 0 ∧ (26 + x2).toNatClampNeg < 29) ∧ ((¬ (26 + x2) < 0 ∧ (26 + x2).toNatClampNeg < 29) ∧ (t_Coach_driveOver_30_73 E (m_up I1 31 (26 + x2).toNatClampNeg ((I1 31 (26 + x2).toNatClampNeg) + 1)) T1 Q ))))) (fun _ _ _ => False))
theorem s_Coach_driveOver_30_58 {E : MEnv} {I : II} {T : TT} {Q : QQ} {x2 : Int32} (hq : t_Coach_driveOver_30_58 E I T Q x2) : ev E 120 58 [some (.ref 30), none, some (.int x2), none, none] [] I T Q := by
  unfold t_Coach_driveOver_30_58 at hq
  refine ev_seq 3 (ip' := 61) (loc' := [some (.ref 30), none, some (.int x2), none, none]) (st' := [(.int 2), (.int 0), (.int x2)]) (I1 := I) (T1 := T) rfl ?_
  refine ev_callI rfl rfl rfl (fun v1 I1 T1 hq => ?_) (fun x I1 T1 hq => ?_) hq
  · refine ev_br (p := v1 = 0) (a := 73) (b := 63) (st' := []) inferInstance rfl rfl (fun hb => ?_) (fun hb => ?_)
    · have hq := hq.1 hb
      refine ev_fg [false, true, false, true, true] (loc' := [none, none, none, none, none]) rfl ?_
      exact s_Coach_driveOver_30_73 (T := T1) hq
    · have hq := hq.2 hb
      refine ev_seq 6 (ip' := 69) (loc' := [some (.ref 30), none, some (.int x2), none, none]) (st' := [(.int (26 + x2)), (.ref 31), (.int (26 + x2)), (.ref 31)]) (I1 := I1) (T1 := T1) rfl ?_
      obtain ⟨hg, hq⟩ := hq
      refine ev_iald rfl rfl hg ?_
      refine ev_seq 2 (ip' := 72) (loc' := [some (.ref 30), none, some (.int x2), none, none]) (st' := [(.int ((I1 31 (26 + x2).toNatClampNeg) + 1)), (.int (26 + x2)), (.ref 31)]) (I1 := I1) (T1 := T1) rfl ?_
      obtain ⟨hg, hq⟩ := hq
      refine ev_iast rfl rfl hg ?_
      refine ev_fg [false, true, false, true, true] (loc' := [none, none, none, none, none]) rfl ?_
      exact s_Coach_driveOver_30_73 (T := T1) hq
  · exact hq.elim
def t_Coach_driveOver_30_37 (E : MEnv) (I : II) (T : TT) (Q : QQ) (x1 : Int32) (x2 : Int32) (y0 : Int32) : Prop := ev E 137 0 [some (.ref 3), some (.int x1)] [] I T (KI (fun v1 I1 T1 => ev E 138 0 [some (.ref 30), some (.int ((y0 + 1) + (v1 / 3))), none] [] I1 T1 (KV (fun I2 T2 => t_Coach_driveOver_30_58 E (m_up I2 31 25 ((I2 31 25) + 1)) T2 Q x2) (fun x I1 T1 => Q (.inr x) I1 T1))) (fun x I1 T1 => Q (.inr x) I1 T1))
theorem s_Coach_driveOver_30_37 {E : MEnv} {I : II} {T : TT} {Q : QQ} {x1 : Int32} {x2 : Int32} {y0 : Int32} (hq : t_Coach_driveOver_30_37 E I T Q x1 x2 y0) : ev E 120 37 [some (.ref 30), some (.int x1), some (.int x2), none, none] [(.int y0)] I T Q := by
  unfold t_Coach_driveOver_30_37 at hq
  refine ev_seq 8 (ip' := 45) (loc' := [some (.ref 30), some (.int x1), some (.int x2), none, some (.int y0)]) (st' := [(.int x1), (.ref 3), (.int (y0 + 1)), (.ref 30)]) (I1 := I) (T1 := T) rfl ?_
  refine ev_callI rfl rfl rfl (fun v1 I1 T1 hq => ?_) (fun x I1 T1 hq => ?_) hq
  · refine ev_seq 3 (ip' := 49) (loc' := [some (.ref 30), some (.int x1), some (.int x2), none, some (.int y0)]) (st' := [(.int ((y0 + 1) + (v1 / 3))), (.ref 30)]) (I1 := I1) (T1 := T1) rfl ?_
    refine ev_callV rfl rfl rfl (fun I2 T2 hq => ?_) (fun x I1 T1 hq => ?_) hq
    · refine ev_seq 8 (ip' := 58) (loc' := [some (.ref 30), some (.int x1), some (.int x2), none, some (.int y0)]) (st' := []) (I1 := m_up I2 31 25 ((I2 31 25) + 1)) (T1 := T2) rfl ?_
      refine ev_fg [true, false, true, true, false] (loc' := [some (.ref 30), none, some (.int x2), none, none]) rfl ?_
      exact s_Coach_driveOver_30_58 (T := T2) hq
    · exact ⟨by decide, hq⟩
  · exact ⟨by decide, hq⟩
def t_Coach_driveOver_30_0 (E : MEnv) (I : II) (T : TT) (Q : QQ) (x1 : Int32) : Prop := ev E 121 0 [some (.ref 30), none, none, none, none] [] I T (KV (fun I1 T1 => ev E 133 0 [some (.ref 30), some (.int x1)] [] I1 T1 (KI (fun v2 I2 T2 => (v2 = 0 → (ev E 138 0 [some (.ref 30), some (.int 2), none] [] I2 T2 (KV (fun I3 T3 => t_Coach_driveOver_30_58 E I3 T3 Q v2) (fun x I1 T1 => Q (.inr x) I1 T1)))) ∧ (¬ (v2 = 0) → ((v2 = 1 → (ev E 138 0 [some (.ref 30), some (.int 5), none] [] I2 T2 (KV (fun I4 T4 => ev E 140 0 [some (.ref 30), none] [] I4 T4 (KV (fun I5 T5 => t_Coach_driveOver_30_58 E I5 T5 Q v2) (fun x I1 T1 => Q (.inr x) I1 T1))) (fun x I1 T1 => Q (.inr x) I1 T1)))) ∧ (¬ (v2 = 1) → ((((I2 30 3) + (I2 30 4)) ≤ 0 → (t_Coach_driveOver_30_37 E I2 T2 Q x1 v2 0)) ∧ (¬ (((I2 30 3) + (I2 30 4)) ≤ 0) → (ev E 135 0 [some (.ref 3), some (.int x1)] [] I2 T2 (KI (fun v6 I6 T6 => ((I2 30 3) + (I2 30 4)) ≠ 0 ∧ (t_Coach_driveOver_30_37 E I6 T6 Q x1 v2 (v6 / ((I2 30 3) + (I2 30 4))))) (fun x I1 T1 => Q (.inr x) I1 T1))))))))) (fun x I1 T1 => Q (.inr x) I1 T1))) (fun x I1 T1 => Q (.inr x) I1 T1))
theorem s_Coach_driveOver_30_0 {E : MEnv} {I : II} {T : TT} {Q : QQ} {x1 : Int32} (hq : t_Coach_driveOver_30_0 E I T Q x1) : ev E 120 0 [some (.ref 30), some (.int x1), none, none, none] [] I T Q := by
  unfold t_Coach_driveOver_30_0 at hq
  refine ev_seq 1 (ip' := 1) (loc' := [some (.ref 30), some (.int x1), none, none, none]) (st' := [(.ref 30)]) (I1 := I) (T1 := T) rfl ?_
  refine ev_callV rfl rfl rfl (fun I1 T1 hq => ?_) (fun x I1 T1 hq => ?_) hq
  · refine ev_seq 2 (ip' := 4) (loc' := [some (.ref 30), some (.int x1), none, none, none]) (st' := [(.int x1), (.ref 30)]) (I1 := I1) (T1 := T1) rfl ?_
    refine ev_callI rfl rfl rfl (fun v2 I2 T2 hq => ?_) (fun x I1 T1 hq => ?_) hq
    · refine ev_seq 8 (ip' := 13) (loc' := [some (.ref 30), some (.int x1), some (.int v2), some (.int ((I2 30 3) + (I2 30 4))), none]) (st' := [(.int v2)]) (I1 := I2) (T1 := T2) rfl ?_
      refine ev_br (p := v2 = 0) (a := 14) (b := 18) (st' := []) inferInstance rfl rfl (fun hb => ?_) (fun hb => ?_)
      · have hq := hq.1 hb
        refine ev_seq 2 (ip' := 16) (loc' := [some (.ref 30), some (.int x1), some (.int v2), some (.int ((I2 30 3) + (I2 30 4))), none]) (st' := [(.int 2), (.ref 30)]) (I1 := I2) (T1 := T2) rfl ?_
        refine ev_callV rfl rfl rfl (fun I3 T3 hq => ?_) (fun x I1 T1 hq => ?_) hq
        · refine ev_seq 1 (ip' := 58) (loc' := [some (.ref 30), some (.int x1), some (.int v2), some (.int ((I2 30 3) + (I2 30 4))), none]) (st' := []) (I1 := I3) (T1 := T3) rfl ?_
          refine ev_fg [true, false, true, false, true] (loc' := [some (.ref 30), none, some (.int v2), none, none]) rfl ?_
          exact s_Coach_driveOver_30_58 (T := T3) hq
        · exact ⟨by decide, hq⟩
      · have hq := hq.2 hb
        refine ev_seq 2 (ip' := 20) (loc' := [some (.ref 30), some (.int x1), some (.int v2), some (.int ((I2 30 3) + (I2 30 4))), none]) (st' := [(.int 1), (.int v2)]) (I1 := I2) (T1 := T2) rfl ?_
        refine ev_br (p := v2 = 1) (a := 21) (b := 27) (st' := []) inferInstance rfl rfl (fun hb => ?_) (fun hb => ?_)
        · have hq := hq.1 hb
          refine ev_seq 2 (ip' := 23) (loc' := [some (.ref 30), some (.int x1), some (.int v2), some (.int ((I2 30 3) + (I2 30 4))), none]) (st' := [(.int 5), (.ref 30)]) (I1 := I2) (T1 := T2) rfl ?_
          refine ev_callV rfl rfl rfl (fun I4 T4 hq => ?_) (fun x I1 T1 hq => ?_) hq
          · refine ev_seq 1 (ip' := 25) (loc' := [some (.ref 30), some (.int x1), some (.int v2), some (.int ((I2 30 3) + (I2 30 4))), none]) (st' := [(.ref 30)]) (I1 := I4) (T1 := T4) rfl ?_
            refine ev_callV rfl rfl rfl (fun I5 T5 hq => ?_) (fun x I1 T1 hq => ?_) hq
            · refine ev_seq 1 (ip' := 58) (loc' := [some (.ref 30), some (.int x1), some (.int v2), some (.int ((I2 30 3) + (I2 30 4))), none]) (st' := []) (I1 := I5) (T1 := T5) rfl ?_
              refine ev_fg [true, false, true, false, true] (loc' := [some (.ref 30), none, some (.int v2), none, none]) rfl ?_
              exact s_Coach_driveOver_30_58 (T := T5) hq
            · exact ⟨by decide, hq⟩
          · exact ⟨by decide, hq⟩
        · have hq := hq.2 hb
          refine ev_seq 1 (ip' := 28) (loc' := [some (.ref 30), some (.int x1), some (.int v2), some (.int ((I2 30 3) + (I2 30 4))), none]) (st' := [(.int ((I2 30 3) + (I2 30 4)))]) (I1 := I2) (T1 := T2) rfl ?_
          refine ev_br (p := ((I2 30 3) + (I2 30 4)) ≤ 0) (a := 36) (b := 29) (st' := []) inferInstance rfl rfl (fun hb => ?_) (fun hb => ?_)
          · have hq := hq.1 hb
            refine ev_seq 1 (ip' := 37) (loc' := [some (.ref 30), some (.int x1), some (.int v2), some (.int ((I2 30 3) + (I2 30 4))), none]) (st' := [(.int 0)]) (I1 := I2) (T1 := T2) rfl ?_
            refine ev_fg [true, true, true, false, true] (loc' := [some (.ref 30), some (.int x1), some (.int v2), none, none]) rfl ?_
            exact s_Coach_driveOver_30_37 (T := T2) hq
          · have hq := hq.2 hb
            refine ev_seq 3 (ip' := 32) (loc' := [some (.ref 30), some (.int x1), some (.int v2), some (.int ((I2 30 3) + (I2 30 4))), none]) (st' := [(.int x1), (.ref 3)]) (I1 := I2) (T1 := T2) rfl ?_
            refine ev_callI rfl rfl rfl (fun v6 I6 T6 hq => ?_) (fun x I1 T1 hq => ?_) hq
            · refine ev_seq 1 (ip' := 34) (loc' := [some (.ref 30), some (.int x1), some (.int v2), some (.int ((I2 30 3) + (I2 30 4))), none]) (st' := [(.int ((I2 30 3) + (I2 30 4))), (.int v6)]) (I1 := I6) (T1 := T6) rfl ?_
              obtain ⟨hg, hq⟩ := hq
              refine ev_pr rfl (ev_idiv hg) ?_
              refine ev_seq 1 (ip' := 37) (loc' := [some (.ref 30), some (.int x1), some (.int v2), some (.int ((I2 30 3) + (I2 30 4))), none]) (st' := [(.int (v6 / ((I2 30 3) + (I2 30 4))))]) (I1 := I6) (T1 := T6) rfl ?_
              refine ev_fg [true, true, true, false, true] (loc' := [some (.ref 30), some (.int x1), some (.int v2), none, none]) rfl ?_
              exact s_Coach_driveOver_30_37 (T := T6) hq
            · exact ⟨by decide, hq⟩
    · exact ⟨by decide, hq⟩
  · exact ⟨by decide, hq⟩
/-- FeltHarness$Coach.easeOf(I)I -/
def t_Coach_easeOf_28_12 (E : MEnv) (I : II) (T : TT) (Q : QQ) (y0 : Int32) : Prop := Q (.inl (some (.int y0))) I T
theorem s_Coach_easeOf_28_12 {E : MEnv} {I : II} {T : TT} {Q : QQ} {y0 : Int32} (hq : t_Coach_easeOf_28_12 E I T Q y0) : ev E 143 12 [none, none] [(.int y0)] I T Q := by
  unfold t_Coach_easeOf_28_12 at hq
  exact ev_ret rfl rfl hq
def t_Coach_easeOf_28_0 (E : MEnv) (I : II) (T : TT) (Q : QQ) (x1 : Int32) : Prop := ev E 108 0 [some (.ref 28), some (.int x1)] [] I T (KI (fun v1 I1 T1 => (v1 = 0 → (ev E 126 0 [some (.ref 3), some (.int x1)] [] I1 T1 (KI (fun v2 I2 T2 => t_Coach_easeOf_28_12 E I2 T2 Q (3 + v2)) (fun x I1 T1 => Q (.inr x) I1 T1)))) ∧ (¬ (v1 = 0) → (t_Coach_easeOf_28_12 E I1 T1 Q 1))) (fun x I1 T1 => Q (.inr x) I1 T1))
theorem s_Coach_easeOf_28_0 {E : MEnv} {I : II} {T : TT} {Q : QQ} {x1 : Int32} (hq : t_Coach_easeOf_28_0 E I T Q x1) : ev E 143 0 [some (.ref 28), some (.int x1)] [] I T Q := by
  unfold t_Coach_easeOf_28_0 at hq
  refine ev_seq 2 (ip' := 2) (loc' := [some (.ref 28), some (.int x1)]) (st' := [(.int x1), (.ref 28)]) (I1 := I) (T1 := T) rfl ?_
  refine ev_callI rfl rfl rfl (fun v1 I1 T1 hq => ?_) (fun x I1 T1 hq => ?_) hq
  · refine ev_br (p := v1 = 0) (a := 6) (b := 4) (st' := []) inferInstance rfl rfl (fun hb => ?_) (fun hb => ?_)
    · have hq := hq.1 hb
      refine ev_seq 4 (ip' := 10) (loc' := [some (.ref 28), some (.int x1)]) (st' := [(.int x1), (.ref 3), (.int 3)]) (I1 := I1) (T1 := T1) rfl ?_
      refine ev_callI rfl rfl rfl (fun v2 I2 T2 hq => ?_) (fun x I1 T1 hq => ?_) hq
      · refine ev_seq 1 (ip' := 12) (loc' := [some (.ref 28), some (.int x1)]) (st' := [(.int (3 + v2))]) (I1 := I2) (T1 := T2) rfl ?_
        refine ev_fg [false, false] (loc' := [none, none]) rfl ?_
        exact s_Coach_easeOf_28_12 (T := T2) hq
      · exact ⟨by decide, hq⟩
    · have hq := hq.2 hb
      refine ev_seq 2 (ip' := 12) (loc' := [some (.ref 28), some (.int x1)]) (st' := [(.int 1)]) (I1 := I1) (T1 := T1) rfl ?_
      refine ev_fg [false, false] (loc' := [none, none]) rfl ?_
      exact s_Coach_easeOf_28_12 (T := T1) hq
  · exact ⟨by decide, hq⟩
/-- FeltHarness$Coach.easeOf(I)I -/
def t_Coach_easeOf_30_12 (E : MEnv) (I : II) (T : TT) (Q : QQ) (y0 : Int32) : Prop := Q (.inl (some (.int y0))) I T
theorem s_Coach_easeOf_30_12 {E : MEnv} {I : II} {T : TT} {Q : QQ} {y0 : Int32} (hq : t_Coach_easeOf_30_12 E I T Q y0) : ev E 143 12 [none, none] [(.int y0)] I T Q := by
  unfold t_Coach_easeOf_30_12 at hq
  exact ev_ret rfl rfl hq
def t_Coach_easeOf_30_0 (E : MEnv) (I : II) (T : TT) (Q : QQ) (x1 : Int32) : Prop := ev E 108 0 [some (.ref 30), some (.int x1)] [] I T (KI (fun v1 I1 T1 => (v1 = 0 → (ev E 126 0 [some (.ref 3), some (.int x1)] [] I1 T1 (KI (fun v2 I2 T2 => t_Coach_easeOf_30_12 E I2 T2 Q (3 + v2)) (fun x I1 T1 => Q (.inr x) I1 T1)))) ∧ (¬ (v1 = 0) → (t_Coach_easeOf_30_12 E I1 T1 Q 1))) (fun x I1 T1 => Q (.inr x) I1 T1))
theorem s_Coach_easeOf_30_0 {E : MEnv} {I : II} {T : TT} {Q : QQ} {x1 : Int32} (hq : t_Coach_easeOf_30_0 E I T Q x1) : ev E 143 0 [some (.ref 30), some (.int x1)] [] I T Q := by
  unfold t_Coach_easeOf_30_0 at hq
  refine ev_seq 2 (ip' := 2) (loc' := [some (.ref 30), some (.int x1)]) (st' := [(.int x1), (.ref 30)]) (I1 := I) (T1 := T) rfl ?_
  refine ev_callI rfl rfl rfl (fun v1 I1 T1 hq => ?_) (fun x I1 T1 hq => ?_) hq
  · refine ev_br (p := v1 = 0) (a := 6) (b := 4) (st' := []) inferInstance rfl rfl (fun hb => ?_) (fun hb => ?_)
    · have hq := hq.1 hb
      refine ev_seq 4 (ip' := 10) (loc' := [some (.ref 30), some (.int x1)]) (st' := [(.int x1), (.ref 3), (.int 3)]) (I1 := I1) (T1 := T1) rfl ?_
      refine ev_callI rfl rfl rfl (fun v2 I2 T2 hq => ?_) (fun x I1 T1 hq => ?_) hq
      · refine ev_seq 1 (ip' := 12) (loc' := [some (.ref 30), some (.int x1)]) (st' := [(.int (3 + v2))]) (I1 := I2) (T1 := T2) rfl ?_
        refine ev_fg [false, false] (loc' := [none, none]) rfl ?_
        exact s_Coach_easeOf_30_12 (T := T2) hq
      · exact ⟨by decide, hq⟩
    · have hq := hq.2 hb
      refine ev_seq 2 (ip' := 12) (loc' := [some (.ref 30), some (.int x1)]) (st' := [(.int 1)]) (I1 := I1) (T1 := T1) rfl ?_
      refine ev_fg [false, false] (loc' := [none, none]) rfl ?_
      exact s_Coach_easeOf_30_12 (T := T1) hq
  · exact ⟨by decide, hq⟩
/-- FeltHarness$Coach.forceOf(III)I -/
def t_Coach_forceOf_28_0 (E : MEnv) (I : II) (T : TT) (Q : QQ) (x1 : Int32) (x2 : Int32) (x3 : Int32) : Prop := ev E 125 0 [some (.ref 3), some (.int x1)] [] I T (KI (fun v1 I1 T1 => ev E 126 0 [some (.ref 3), some (.int x1)] [] I1 T1 (KI (fun v2 I2 T2 => ev E 113 0 [some (.ref 28), some (.int x1)] [] I2 T2 (KI (fun v3 I3 T3 => ev E 127 0 [some (.ref 28), some (.int x1)] [] I3 T3 (KI (fun v4 I4 T4 => ev E 128 0 [some (.ref 15), some (.int v1), some (.int v2), some (.int v3), some (.int v4)] [] I4 T4 (KV (fun I5 T5 => ev E 115 0 [some (.ref 28)] [] I5 T5 (KI (fun v6 I6 T6 => ev E 116 0 [some (.ref 28)] [] I6 T6 (KI (fun v7 I7 T7 => ev E 129 0 [some (.ref 15), some (.int x2), some (.int v6), some (.int x3), some (.int v7)] [] I7 T7 (KV (fun I8 T8 => ev E 130 0 [some (.ref 15), none, none, none] [] I8 T8 (KI (fun v9 I9 T9 => Q (.inl (some (.int v9))) I9 T9) (fun x I1 T1 => Q (.inr x) I1 T1))) (fun x I1 T1 => Q (.inr x) I1 T1))) (fun x I1 T1 => Q (.inr x) I1 T1))) (fun x I1 T1 => Q (.inr x) I1 T1))) (fun x I1 T1 => Q (.inr x) I1 T1))) (fun x I1 T1 => Q (.inr x) I1 T1))) (fun x I1 T1 => Q (.inr x) I1 T1))) (fun x I1 T1 => Q (.inr x) I1 T1))) (fun x I1 T1 => Q (.inr x) I1 T1))
theorem s_Coach_forceOf_28_0 {E : MEnv} {I : II} {T : TT} {Q : QQ} {x1 : Int32} {x2 : Int32} {x3 : Int32} (hq : t_Coach_forceOf_28_0 E I T Q x1 x2 x3) : ev E 124 0 [some (.ref 28), some (.int x1), some (.int x2), some (.int x3)] [] I T Q := by
  unfold t_Coach_forceOf_28_0 at hq
  refine ev_seq 5 (ip' := 5) (loc' := [some (.ref 28), some (.int x1), some (.int x2), some (.int x3)]) (st' := [(.int x1), (.ref 3), (.ref 15)]) (I1 := I) (T1 := T) rfl ?_
  refine ev_callI rfl rfl rfl (fun v1 I1 T1 hq => ?_) (fun x I1 T1 hq => ?_) hq
  · refine ev_seq 3 (ip' := 9) (loc' := [some (.ref 28), some (.int x1), some (.int x2), some (.int x3)]) (st' := [(.int x1), (.ref 3), (.int v1), (.ref 15)]) (I1 := I1) (T1 := T1) rfl ?_
    refine ev_callI rfl rfl rfl (fun v2 I2 T2 hq => ?_) (fun x I1 T1 hq => ?_) hq
    · refine ev_seq 2 (ip' := 12) (loc' := [some (.ref 28), some (.int x1), some (.int x2), some (.int x3)]) (st' := [(.int x1), (.ref 28), (.int v2), (.int v1), (.ref 15)]) (I1 := I2) (T1 := T2) rfl ?_
      refine ev_callI rfl rfl rfl (fun v3 I3 T3 hq => ?_) (fun x I1 T1 hq => ?_) hq
      · refine ev_seq 2 (ip' := 15) (loc' := [some (.ref 28), some (.int x1), some (.int x2), some (.int x3)]) (st' := [(.int x1), (.ref 28), (.int v3), (.int v2), (.int v1), (.ref 15)]) (I1 := I3) (T1 := T3) rfl ?_
        refine ev_callI rfl rfl rfl (fun v4 I4 T4 hq => ?_) (fun x I1 T1 hq => ?_) hq
        · refine ev_callV rfl rfl rfl (fun I5 T5 hq => ?_) (fun x I1 T1 hq => ?_) hq
          · refine ev_seq 4 (ip' := 21) (loc' := [some (.ref 28), some (.int x1), some (.int x2), some (.int x3)]) (st' := [(.ref 28), (.int x2), (.ref 15)]) (I1 := I5) (T1 := T5) rfl ?_
            refine ev_callI rfl rfl rfl (fun v6 I6 T6 hq => ?_) (fun x I1 T1 hq => ?_) hq
            · refine ev_seq 2 (ip' := 24) (loc' := [some (.ref 28), some (.int x1), some (.int x2), some (.int x3)]) (st' := [(.ref 28), (.int x3), (.int v6), (.int x2), (.ref 15)]) (I1 := I6) (T1 := T6) rfl ?_
              refine ev_callI rfl rfl rfl (fun v7 I7 T7 hq => ?_) (fun x I1 T1 hq => ?_) hq
              · refine ev_callV rfl rfl rfl (fun I8 T8 hq => ?_) (fun x I1 T1 hq => ?_) hq
                · refine ev_seq 2 (ip' := 28) (loc' := [some (.ref 28), some (.int x1), some (.int x2), some (.int x3)]) (st' := [(.ref 15)]) (I1 := I8) (T1 := T8) rfl ?_
                  refine ev_callI rfl rfl rfl (fun v9 I9 T9 hq => ?_) (fun x I1 T1 hq => ?_) hq
                  · exact ev_ret rfl rfl hq
                  · exact ⟨by decide, hq⟩
                · exact ⟨by decide, hq⟩
              · exact ⟨by decide, hq⟩
            · exact ⟨by decide, hq⟩
          · exact ⟨by decide, hq⟩
        · exact ⟨by decide, hq⟩
      · exact ⟨by decide, hq⟩
    · exact ⟨by decide, hq⟩
  · exact ⟨by decide, hq⟩
/-- FeltHarness$Coach.forceOf(III)I -/
def t_Coach_forceOf_30_0 (E : MEnv) (I : II) (T : TT) (Q : QQ) (x1 : Int32) (x2 : Int32) (x3 : Int32) : Prop := ev E 125 0 [some (.ref 3), some (.int x1)] [] I T (KI (fun v1 I1 T1 => ev E 126 0 [some (.ref 3), some (.int x1)] [] I1 T1 (KI (fun v2 I2 T2 => ev E 113 0 [some (.ref 30), some (.int x1)] [] I2 T2 (KI (fun v3 I3 T3 => ev E 127 0 [some (.ref 30), some (.int x1)] [] I3 T3 (KI (fun v4 I4 T4 => ev E 128 0 [some (.ref 15), some (.int v1), some (.int v2), some (.int v3), some (.int v4)] [] I4 T4 (KV (fun I5 T5 => ev E 115 0 [some (.ref 30)] [] I5 T5 (KI (fun v6 I6 T6 => ev E 116 0 [some (.ref 30)] [] I6 T6 (KI (fun v7 I7 T7 => ev E 129 0 [some (.ref 15), some (.int x2), some (.int v6), some (.int x3), some (.int v7)] [] I7 T7 (KV (fun I8 T8 => ev E 130 0 [some (.ref 15), none, none, none] [] I8 T8 (KI (fun v9 I9 T9 => Q (.inl (some (.int v9))) I9 T9) (fun x I1 T1 => Q (.inr x) I1 T1))) (fun x I1 T1 => Q (.inr x) I1 T1))) (fun x I1 T1 => Q (.inr x) I1 T1))) (fun x I1 T1 => Q (.inr x) I1 T1))) (fun x I1 T1 => Q (.inr x) I1 T1))) (fun x I1 T1 => Q (.inr x) I1 T1))) (fun x I1 T1 => Q (.inr x) I1 T1))) (fun x I1 T1 => Q (.inr x) I1 T1))) (fun x I1 T1 => Q (.inr x) I1 T1))
theorem s_Coach_forceOf_30_0 {E : MEnv} {I : II} {T : TT} {Q : QQ} {x1 : Int32} {x2 : Int32} {x3 : Int32} (hq : t_Coach_forceOf_30_0 E I T Q x1 x2 x3) : ev E 124 0 [some (.ref 30), some (.int x1), some (.int x2), some (.int x3)] [] I T Q := by
  unfold t_Coach_forceOf_30_0 at hq
  refine ev_seq 5 (ip' := 5) (loc' := [some (.ref 30), some (.int x1), some (.int x2), some (.int x3)]) (st' := [(.int x1), (.ref 3), (.ref 15)]) (I1 := I) (T1 := T) rfl ?_
  refine ev_callI rfl rfl rfl (fun v1 I1 T1 hq => ?_) (fun x I1 T1 hq => ?_) hq
  · refine ev_seq 3 (ip' := 9) (loc' := [some (.ref 30), some (.int x1), some (.int x2), some (.int x3)]) (st' := [(.int x1), (.ref 3), (.int v1), (.ref 15)]) (I1 := I1) (T1 := T1) rfl ?_
    refine ev_callI rfl rfl rfl (fun v2 I2 T2 hq => ?_) (fun x I1 T1 hq => ?_) hq
    · refine ev_seq 2 (ip' := 12) (loc' := [some (.ref 30), some (.int x1), some (.int x2), some (.int x3)]) (st' := [(.int x1), (.ref 30), (.int v2), (.int v1), (.ref 15)]) (I1 := I2) (T1 := T2) rfl ?_
      refine ev_callI rfl rfl rfl (fun v3 I3 T3 hq => ?_) (fun x I1 T1 hq => ?_) hq
      · refine ev_seq 2 (ip' := 15) (loc' := [some (.ref 30), some (.int x1), some (.int x2), some (.int x3)]) (st' := [(.int x1), (.ref 30), (.int v3), (.int v2), (.int v1), (.ref 15)]) (I1 := I3) (T1 := T3) rfl ?_
        refine ev_callI rfl rfl rfl (fun v4 I4 T4 hq => ?_) (fun x I1 T1 hq => ?_) hq
        · refine ev_callV rfl rfl rfl (fun I5 T5 hq => ?_) (fun x I1 T1 hq => ?_) hq
          · refine ev_seq 4 (ip' := 21) (loc' := [some (.ref 30), some (.int x1), some (.int x2), some (.int x3)]) (st' := [(.ref 30), (.int x2), (.ref 15)]) (I1 := I5) (T1 := T5) rfl ?_
            refine ev_callI rfl rfl rfl (fun v6 I6 T6 hq => ?_) (fun x I1 T1 hq => ?_) hq
            · refine ev_seq 2 (ip' := 24) (loc' := [some (.ref 30), some (.int x1), some (.int x2), some (.int x3)]) (st' := [(.ref 30), (.int x3), (.int v6), (.int x2), (.ref 15)]) (I1 := I6) (T1 := T6) rfl ?_
              refine ev_callI rfl rfl rfl (fun v7 I7 T7 hq => ?_) (fun x I1 T1 hq => ?_) hq
              · refine ev_callV rfl rfl rfl (fun I8 T8 hq => ?_) (fun x I1 T1 hq => ?_) hq
                · refine ev_seq 2 (ip' := 28) (loc' := [some (.ref 30), some (.int x1), some (.int x2), some (.int x3)]) (st' := [(.ref 15)]) (I1 := I8) (T1 := T8) rfl ?_
                  refine ev_callI rfl rfl rfl (fun v9 I9 T9 hq => ?_) (fun x I1 T1 hq => ?_) hq
                  · exact ev_ret rfl rfl hq
                  · exact ⟨by decide, hq⟩
                · exact ⟨by decide, hq⟩
              · exact ⟨by decide, hq⟩
            · exact ⟨by decide, hq⟩
          · exact ⟨by decide, hq⟩
        · exact ⟨by decide, hq⟩
      · exact ⟨by decide, hq⟩
    · exact ⟨by decide, hq⟩
  · exact ⟨by decide, hq⟩
/-- FeltHarness$Coach.goHome()V -/
def t_Coach_goHome_28_0 (E : MEnv) (I : II) (T : TT) (Q : QQ) : Prop := Q (.inl none) (m_up I 29 25 0) T
theorem s_Coach_goHome_28_0 {E : MEnv} {I : II} {T : TT} {Q : QQ} (hq : t_Coach_goHome_28_0 E I T Q) : ev E 141 0 [some (.ref 28)] [] I T Q := by
  unfold t_Coach_goHome_28_0 at hq
  refine ev_seq 5 (ip' := 5) (loc' := [some (.ref 28)]) (st' := []) (I1 := m_up I 29 25 0) (T1 := T) rfl ?_
  exact ev_ret rfl rfl hq
/-- FeltHarness$Coach.goHome()V -/
def t_Coach_goHome_30_0 (E : MEnv) (I : II) (T : TT) (Q : QQ) : Prop := Q (.inl none) (m_up I 31 25 0) T
theorem s_Coach_goHome_30_0 {E : MEnv} {I : II} {T : TT} {Q : QQ} (hq : t_Coach_goHome_30_0 E I T Q) : ev E 141 0 [some (.ref 30)] [] I T Q := by
  unfold t_Coach_goHome_30_0 at hq
  refine ev_seq 5 (ip' := 5) (loc' := [some (.ref 30)]) (st' := []) (I1 := m_up I 31 25 0) (T1 := T) rfl ?_
  exact ev_ret rfl rfl hq
/-- FeltHarness$Coach.hasPlace(I)Z -/
def t_Coach_hasPlace_28_8 (E : MEnv) (I : II) (T : TT) (Q : QQ) (y0 : Int32) : Prop := (y0 = 0 ∨ y0 = 1) ∧ Q (.inl (some (.int y0))) I T
theorem s_Coach_hasPlace_28_8 {E : MEnv} {I : II} {T : TT} {Q : QQ} {y0 : Int32} (hq : t_Coach_hasPlace_28_8 E I T Q y0) : ev E 108 8 [none, none] [(.int y0)] I T Q := by
  unfold t_Coach_hasPlace_28_8 at hq
  exact ev_retb rfl rfl hq.1 hq.2
def t_Coach_hasPlace_28_0 (E : MEnv) (I : II) (T : TT) (Q : QQ) (x1 : Int32) : Prop := ev E 109 0 [some (.ref 28), some (.int x1)] [] I T (KI (fun v1 I1 T1 => (v1 = (-1) → (t_Coach_hasPlace_28_8 E I1 T1 Q 0)) ∧ (¬ (v1 = (-1)) → (t_Coach_hasPlace_28_8 E I1 T1 Q 1))) (fun x I1 T1 => Q (.inr x) I1 T1))
theorem s_Coach_hasPlace_28_0 {E : MEnv} {I : II} {T : TT} {Q : QQ} {x1 : Int32} (hq : t_Coach_hasPlace_28_0 E I T Q x1) : ev E 108 0 [some (.ref 28), some (.int x1)] [] I T Q := by
  unfold t_Coach_hasPlace_28_0 at hq
  refine ev_seq 2 (ip' := 2) (loc' := [some (.ref 28), some (.int x1)]) (st' := [(.int x1), (.ref 28)]) (I1 := I) (T1 := T) rfl ?_
  refine ev_callI rfl rfl rfl (fun v1 I1 T1 hq => ?_) (fun x I1 T1 hq => ?_) hq
  · refine ev_seq 1 (ip' := 4) (loc' := [some (.ref 28), some (.int x1)]) (st' := [(.int (-1)), (.int v1)]) (I1 := I1) (T1 := T1) rfl ?_
    refine ev_br (p := v1 = (-1)) (a := 7) (b := 5) (st' := []) inferInstance rfl rfl (fun hb => ?_) (fun hb => ?_)
    · have hq := hq.1 hb
      refine ev_seq 1 (ip' := 8) (loc' := [some (.ref 28), some (.int x1)]) (st' := [(.int 0)]) (I1 := I1) (T1 := T1) rfl ?_
      refine ev_fg [false, false] (loc' := [none, none]) rfl ?_
      exact s_Coach_hasPlace_28_8 (T := T1) hq
    · have hq := hq.2 hb
      refine ev_seq 2 (ip' := 8) (loc' := [some (.ref 28), some (.int x1)]) (st' := [(.int 1)]) (I1 := I1) (T1 := T1) rfl ?_
      refine ev_fg [false, false] (loc' := [none, none]) rfl ?_
      exact s_Coach_hasPlace_28_8 (T := T1) hq
  · exact ⟨by decide, hq⟩
/-- FeltHarness$Coach.hasPlace(I)Z -/
def t_Coach_hasPlace_30_8 (E : MEnv) (I : II) (T : TT) (Q : QQ) (y0 : Int32) : Prop := (y0 = 0 ∨ y0 = 1) ∧ Q (.inl (some (.int y0))) I T
theorem s_Coach_hasPlace_30_8 {E : MEnv} {I : II} {T : TT} {Q : QQ} {y0 : Int32} (hq : t_Coach_hasPlace_30_8 E I T Q y0) : ev E 108 8 [none, none] [(.int y0)] I T Q := by
  unfold t_Coach_hasPlace_30_8 at hq
  exact ev_retb rfl rfl hq.1 hq.2
def t_Coach_hasPlace_30_0 (E : MEnv) (I : II) (T : TT) (Q : QQ) (x1 : Int32) : Prop := ev E 109 0 [some (.ref 30), some (.int x1)] [] I T (KI (fun v1 I1 T1 => (v1 = (-1) → (t_Coach_hasPlace_30_8 E I1 T1 Q 0)) ∧ (¬ (v1 = (-1)) → (t_Coach_hasPlace_30_8 E I1 T1 Q 1))) (fun x I1 T1 => Q (.inr x) I1 T1))
theorem s_Coach_hasPlace_30_0 {E : MEnv} {I : II} {T : TT} {Q : QQ} {x1 : Int32} (hq : t_Coach_hasPlace_30_0 E I T Q x1) : ev E 108 0 [some (.ref 30), some (.int x1)] [] I T Q := by
  unfold t_Coach_hasPlace_30_0 at hq
  refine ev_seq 2 (ip' := 2) (loc' := [some (.ref 30), some (.int x1)]) (st' := [(.int x1), (.ref 30)]) (I1 := I) (T1 := T) rfl ?_
  refine ev_callI rfl rfl rfl (fun v1 I1 T1 hq => ?_) (fun x I1 T1 hq => ?_) hq
  · refine ev_seq 1 (ip' := 4) (loc' := [some (.ref 30), some (.int x1)]) (st' := [(.int (-1)), (.int v1)]) (I1 := I1) (T1 := T1) rfl ?_
    refine ev_br (p := v1 = (-1)) (a := 7) (b := 5) (st' := []) inferInstance rfl rfl (fun hb => ?_) (fun hb => ?_)
    · have hq := hq.1 hb
      refine ev_seq 1 (ip' := 8) (loc' := [some (.ref 30), some (.int x1)]) (st' := [(.int 0)]) (I1 := I1) (T1 := T1) rfl ?_
      refine ev_fg [false, false] (loc' := [none, none]) rfl ?_
      exact s_Coach_hasPlace_30_8 (T := T1) hq
    · have hq := hq.2 hb
      refine ev_seq 2 (ip' := 8) (loc' := [some (.ref 30), some (.int x1)]) (st' := [(.int 1)]) (I1 := I1) (T1 := T1) rfl ?_
      refine ev_fg [false, false] (loc' := [none, none]) rfl ?_
      exact s_Coach_hasPlace_30_8 (T := T1) hq
  · exact ⟨by decide, hq⟩
/-- FeltHarness$Coach.howOften(I)I -/
def t_Coach_howOften_28_13 (E : MEnv) (I : II) (T : TT) (Q : QQ) (y0 : Int32) : Prop := Q (.inl (some (.int y0))) I T
theorem s_Coach_howOften_28_13 {E : MEnv} {I : II} {T : TT} {Q : QQ} {y0 : Int32} (hq : t_Coach_howOften_28_13 E I T Q y0) : ev E 184 13 [none, none] [(.int y0)] I T Q := by
  unfold t_Coach_howOften_28_13 at hq
  exact ev_ret rfl rfl hq
def t_Coach_howOften_28_0 (E : MEnv) (I : II) (T : TT) (Q : QQ) (x1 : Int32) : Prop := ev E 27 0 [some (.int x1), some (.int 0), some (.int 2)] [] I T (KI (fun v1 I1 T1 => (v1 = 0 → (t_Coach_howOften_28_13 E I1 T1 Q 0)) ∧ (¬ (v1 = 0) → ((¬ (26 + x1) < 0 ∧ (26 + x1).toNatClampNeg < 29) ∧ (t_Coach_howOften_28_13 E I1 T1 Q (I1 29 (26 + x1).toNatClampNeg))))) (fun _ _ _ => False))
theorem s_Coach_howOften_28_0 {E : MEnv} {I : II} {T : TT} {Q : QQ} {x1 : Int32} (hq : t_Coach_howOften_28_0 E I T Q x1) : ev E 184 0 [some (.ref 28), some (.int x1)] [] I T Q := by
  unfold t_Coach_howOften_28_0 at hq
  refine ev_seq 3 (ip' := 3) (loc' := [some (.ref 28), some (.int x1)]) (st' := [(.int 2), (.int 0), (.int x1)]) (I1 := I) (T1 := T) rfl ?_
  refine ev_callI rfl rfl rfl (fun v1 I1 T1 hq => ?_) (fun x I1 T1 hq => ?_) hq
  · refine ev_br (p := v1 = 0) (a := 12) (b := 5) (st' := []) inferInstance rfl rfl (fun hb => ?_) (fun hb => ?_)
    · have hq := hq.1 hb
      refine ev_seq 1 (ip' := 13) (loc' := [some (.ref 28), some (.int x1)]) (st' := [(.int 0)]) (I1 := I1) (T1 := T1) rfl ?_
      refine ev_fg [false, false] (loc' := [none, none]) rfl ?_
      exact s_Coach_howOften_28_13 (T := T1) hq
    · have hq := hq.2 hb
      refine ev_seq 5 (ip' := 10) (loc' := [some (.ref 28), some (.int x1)]) (st' := [(.int (26 + x1)), (.ref 29)]) (I1 := I1) (T1 := T1) rfl ?_
      obtain ⟨hg, hq⟩ := hq
      refine ev_iald rfl rfl hg ?_
      refine ev_seq 1 (ip' := 13) (loc' := [some (.ref 28), some (.int x1)]) (st' := [(.int (I1 29 (26 + x1).toNatClampNeg))]) (I1 := I1) (T1 := T1) rfl ?_
      refine ev_fg [false, false] (loc' := [none, none]) rfl ?_
      exact s_Coach_howOften_28_13 (T := T1) hq
  · exact hq.elim
/-- FeltHarness$Coach.howOften(I)I -/
def t_Coach_howOften_30_13 (E : MEnv) (I : II) (T : TT) (Q : QQ) (y0 : Int32) : Prop := Q (.inl (some (.int y0))) I T
theorem s_Coach_howOften_30_13 {E : MEnv} {I : II} {T : TT} {Q : QQ} {y0 : Int32} (hq : t_Coach_howOften_30_13 E I T Q y0) : ev E 184 13 [none, none] [(.int y0)] I T Q := by
  unfold t_Coach_howOften_30_13 at hq
  exact ev_ret rfl rfl hq
def t_Coach_howOften_30_0 (E : MEnv) (I : II) (T : TT) (Q : QQ) (x1 : Int32) : Prop := ev E 27 0 [some (.int x1), some (.int 0), some (.int 2)] [] I T (KI (fun v1 I1 T1 => (v1 = 0 → (t_Coach_howOften_30_13 E I1 T1 Q 0)) ∧ (¬ (v1 = 0) → ((¬ (26 + x1) < 0 ∧ (26 + x1).toNatClampNeg < 29) ∧ (t_Coach_howOften_30_13 E I1 T1 Q (I1 31 (26 + x1).toNatClampNeg))))) (fun _ _ _ => False))
theorem s_Coach_howOften_30_0 {E : MEnv} {I : II} {T : TT} {Q : QQ} {x1 : Int32} (hq : t_Coach_howOften_30_0 E I T Q x1) : ev E 184 0 [some (.ref 30), some (.int x1)] [] I T Q := by
  unfold t_Coach_howOften_30_0 at hq
  refine ev_seq 3 (ip' := 3) (loc' := [some (.ref 30), some (.int x1)]) (st' := [(.int 2), (.int 0), (.int x1)]) (I1 := I) (T1 := T) rfl ?_
  refine ev_callI rfl rfl rfl (fun v1 I1 T1 hq => ?_) (fun x I1 T1 hq => ?_) hq
  · refine ev_br (p := v1 = 0) (a := 12) (b := 5) (st' := []) inferInstance rfl rfl (fun hb => ?_) (fun hb => ?_)
    · have hq := hq.1 hb
      refine ev_seq 1 (ip' := 13) (loc' := [some (.ref 30), some (.int x1)]) (st' := [(.int 0)]) (I1 := I1) (T1 := T1) rfl ?_
      refine ev_fg [false, false] (loc' := [none, none]) rfl ?_
      exact s_Coach_howOften_30_13 (T := T1) hq
    · have hq := hq.2 hb
      refine ev_seq 5 (ip' := 10) (loc' := [some (.ref 30), some (.int x1)]) (st' := [(.int (26 + x1)), (.ref 31)]) (I1 := I1) (T1 := T1) rfl ?_
      obtain ⟨hg, hq⟩ := hq
      refine ev_iald rfl rfl hg ?_
      refine ev_seq 1 (ip' := 13) (loc' := [some (.ref 30), some (.int x1)]) (st' := [(.int (I1 31 (26 + x1).toNatClampNeg))]) (I1 := I1) (T1 := T1) rfl ?_
      refine ev_fg [false, false] (loc' := [none, none]) rfl ?_
      exact s_Coach_howOften_30_13 (T := T1) hq
  · exact hq.elim
/-- FeltHarness$Coach.isDone(III)Z -/
def t_Coach_isDone_28_34 (E : MEnv) (I : II) (T : TT) (Q : QQ) (x4 : Int32) : Prop := (x4 = 0 ∨ x4 = 1) ∧ Q (.inl (some (.int x4))) I T
theorem s_Coach_isDone_28_34 {E : MEnv} {I : II} {T : TT} {Q : QQ} {x4 : Int32} (hq : t_Coach_isDone_28_34 E I T Q x4) : ev E 104 34 [none, none, none, none, some (.int x4)] [] I T Q := by
  unfold t_Coach_isDone_28_34 at hq
  refine ev_seq 1 (ip' := 35) (loc' := [none, none, none, none, some (.int x4)]) (st' := [(.int x4)]) (I1 := I) (T1 := T) rfl ?_
  exact ev_retb rfl rfl hq.1 hq.2
def t_Coach_isDone_28_0 (E : MEnv) (I : II) (T : TT) (Q : QQ) (x1 : Int32) (x2 : Int32) (x3 : Int32) : Prop := ev E 105 0 [some (.ref 28), some (.int x1), some (.int x2), some (.int x3)] [] I T (KI (fun v1 I1 T1 => (v1 = 0 → (t_Coach_isDone_28_34 E I1 T1 Q v1)) ∧ (¬ (v1 = 0) → (ev E 104 (m_tsw 0 4 [10, 15, 19, 24, 29] 32 x1) [some (.ref 28), some (.int x1), some (.int x2), some (.int x3), some (.int v1)] [] I1 T1 Q))) (fun x I1 T1 => Q (.inr x) I1 T1))
theorem s_Coach_isDone_28_0 {E : MEnv} {I : II} {T : TT} {Q : QQ} {x1 : Int32} {x2 : Int32} {x3 : Int32} (hq : t_Coach_isDone_28_0 E I T Q x1 x2 x3) : ev E 104 0 [some (.ref 28), some (.int x1), some (.int x2), some (.int x3), none] [] I T Q := by
  unfold t_Coach_isDone_28_0 at hq
  refine ev_seq 4 (ip' := 4) (loc' := [some (.ref 28), some (.int x1), some (.int x2), some (.int x3), none]) (st' := [(.int x3), (.int x2), (.int x1), (.ref 28)]) (I1 := I) (T1 := T) rfl ?_
  refine ev_callI rfl rfl rfl (fun v1 I1 T1 hq => ?_) (fun x I1 T1 hq => ?_) hq
  · refine ev_seq 2 (ip' := 7) (loc' := [some (.ref 28), some (.int x1), some (.int x2), some (.int x3), some (.int v1)]) (st' := [(.int v1)]) (I1 := I1) (T1 := T1) rfl ?_
    refine ev_br (p := v1 = 0) (a := 34) (b := 8) (st' := []) inferInstance rfl rfl (fun hb => ?_) (fun hb => ?_)
    · have hq := hq.1 hb
      refine ev_fg [false, false, false, false, true] (loc' := [none, none, none, none, some (.int v1)]) rfl ?_
      exact s_Coach_isDone_28_34 (T := T1) hq
    · have hq := hq.2 hb
      refine ev_seq 1 (ip' := 9) (loc' := [some (.ref 28), some (.int x1), some (.int x2), some (.int x3), some (.int v1)]) (st' := [(.int x1)]) (I1 := I1) (T1 := T1) rfl ?_
      refine ev_jp rfl rfl ?_
      exact hq
  · exact ⟨by decide, hq⟩
def t_Coach_isDone_28_10 (E : MEnv) (I : II) (T : TT) (Q : QQ) (x2 : Int32) (x3 : Int32) (x4 : Int32) : Prop := ev E 117 0 [some (.ref 28), some (.int x2), some (.int x3)] [] I T (KV (fun I1 T1 => t_Coach_isDone_28_34 E I1 T1 Q x4) (fun x I1 T1 => Q (.inr x) I1 T1))
theorem s_Coach_isDone_28_10 {E : MEnv} {I : II} {T : TT} {Q : QQ} {x2 : Int32} {x3 : Int32} {x4 : Int32} (hq : t_Coach_isDone_28_10 E I T Q x2 x3 x4) : ev E 104 10 [some (.ref 28), none, some (.int x2), some (.int x3), some (.int x4)] [] I T Q := by
  unfold t_Coach_isDone_28_10 at hq
  refine ev_seq 3 (ip' := 13) (loc' := [some (.ref 28), none, some (.int x2), some (.int x3), some (.int x4)]) (st' := [(.int x3), (.int x2), (.ref 28)]) (I1 := I) (T1 := T) rfl ?_
  refine ev_callV rfl rfl rfl (fun I1 T1 hq => ?_) (fun x I1 T1 hq => ?_) hq
  · refine ev_seq 1 (ip' := 34) (loc' := [some (.ref 28), none, some (.int x2), some (.int x3), some (.int x4)]) (st' := []) (I1 := I1) (T1 := T1) rfl ?_
    refine ev_fg [false, true, false, false, true] (loc' := [none, none, none, none, some (.int x4)]) rfl ?_
    exact s_Coach_isDone_28_34 (T := T1) hq
  · exact ⟨by decide, hq⟩
def t_Coach_isDone_28_15 (E : MEnv) (I : II) (T : TT) (Q : QQ) (x2 : Int32) (x4 : Int32) : Prop := ev E 118 0 [some (.ref 28), some (.int x2)] [] I T (KV (fun I1 T1 => t_Coach_isDone_28_34 E I1 T1 Q x4) (fun x I1 T1 => Q (.inr x) I1 T1))
theorem s_Coach_isDone_28_15 {E : MEnv} {I : II} {T : TT} {Q : QQ} {x2 : Int32} {x4 : Int32} (hq : t_Coach_isDone_28_15 E I T Q x2 x4) : ev E 104 15 [some (.ref 28), none, some (.int x2), none, some (.int x4)] [] I T Q := by
  unfold t_Coach_isDone_28_15 at hq
  refine ev_seq 2 (ip' := 17) (loc' := [some (.ref 28), none, some (.int x2), none, some (.int x4)]) (st' := [(.int x2), (.ref 28)]) (I1 := I) (T1 := T) rfl ?_
  refine ev_callV rfl rfl rfl (fun I1 T1 hq => ?_) (fun x I1 T1 hq => ?_) hq
  · refine ev_seq 1 (ip' := 34) (loc' := [some (.ref 28), none, some (.int x2), none, some (.int x4)]) (st' := []) (I1 := I1) (T1 := T1) rfl ?_
    refine ev_fg [false, true, false, true, true] (loc' := [none, none, none, none, some (.int x4)]) rfl ?_
    exact s_Coach_isDone_28_34 (T := T1) hq
  · exact ⟨by decide, hq⟩
def t_Coach_isDone_28_19 (E : MEnv) (I : II) (T : TT) (Q : QQ) (x2 : Int32) (x3 : Int32) (x4 : Int32) : Prop := ev E 119 0 [some (.ref 28), some (.int x2), some (.int x3)] [] I T (KV (fun I1 T1 => t_Coach_isDone_28_34 E I1 T1 Q x4) (fun x I1 T1 => Q (.inr x) I1 T1))
theorem s_Coach_isDone_28_19 {E : MEnv} {I : II} {T : TT} {Q : QQ} {x2 : Int32} {x3 : Int32} {x4 : Int32} (hq : t_Coach_isDone_28_19 E I T Q x2 x3 x4) : ev E 104 19 [some (.ref 28), none, some (.int x2), some (.int x3), some (.int x4)] [] I T Q := by
  unfold t_Coach_isDone_28_19 at hq
  refine ev_seq 3 (ip' := 22) (loc' := [some (.ref 28), none, some (.int x2), some (.int x3), some (.int x4)]) (st' := [(.int x3), (.int x2), (.ref 28)]) (I1 := I) (T1 := T) rfl ?_
  refine ev_callV rfl rfl rfl (fun I1 T1 hq => ?_) (fun x I1 T1 hq => ?_) hq
  · refine ev_seq 1 (ip' := 34) (loc' := [some (.ref 28), none, some (.int x2), some (.int x3), some (.int x4)]) (st' := []) (I1 := I1) (T1 := T1) rfl ?_
    refine ev_fg [false, true, false, false, true] (loc' := [none, none, none, none, some (.int x4)]) rfl ?_
    exact s_Coach_isDone_28_34 (T := T1) hq
  · exact ⟨by decide, hq⟩
def t_Coach_isDone_28_24 (E : MEnv) (I : II) (T : TT) (Q : QQ) (x4 : Int32) : Prop := ev E 115 0 [some (.ref 28)] [] I T (KI (fun v1 I1 T1 => ev E 120 0 [some (.ref 28), some (.int v1), none, none, none] [] I1 T1 (KV (fun I2 T2 => t_Coach_isDone_28_34 E I2 T2 Q x4) (fun x I1 T1 => Q (.inr x) I1 T1))) (fun x I1 T1 => Q (.inr x) I1 T1))
theorem s_Coach_isDone_28_24 {E : MEnv} {I : II} {T : TT} {Q : QQ} {x4 : Int32} (hq : t_Coach_isDone_28_24 E I T Q x4) : ev E 104 24 [some (.ref 28), none, none, none, some (.int x4)] [] I T Q := by
  unfold t_Coach_isDone_28_24 at hq
  refine ev_seq 2 (ip' := 26) (loc' := [some (.ref 28), none, none, none, some (.int x4)]) (st' := [(.ref 28), (.ref 28)]) (I1 := I) (T1 := T) rfl ?_
  refine ev_callI rfl rfl rfl (fun v1 I1 T1 hq => ?_) (fun x I1 T1 hq => ?_) hq
  · refine ev_callV rfl rfl rfl (fun I2 T2 hq => ?_) (fun x I1 T1 hq => ?_) hq
    · refine ev_seq 1 (ip' := 34) (loc' := [some (.ref 28), none, none, none, some (.int x4)]) (st' := []) (I1 := I2) (T1 := T2) rfl ?_
      refine ev_fg [false, true, true, true, true] (loc' := [none, none, none, none, some (.int x4)]) rfl ?_
      exact s_Coach_isDone_28_34 (T := T2) hq
    · exact ⟨by decide, hq⟩
  · exact ⟨by decide, hq⟩
def t_Coach_isDone_28_29 (E : MEnv) (I : II) (T : TT) (Q : QQ) (x4 : Int32) : Prop := ev E 141 0 [some (.ref 28)] [] I T (KV (fun I1 T1 => t_Coach_isDone_28_34 E I1 T1 Q x4) (fun x I1 T1 => Q (.inr x) I1 T1))
theorem s_Coach_isDone_28_29 {E : MEnv} {I : II} {T : TT} {Q : QQ} {x4 : Int32} (hq : t_Coach_isDone_28_29 E I T Q x4) : ev E 104 29 [some (.ref 28), none, none, none, some (.int x4)] [] I T Q := by
  unfold t_Coach_isDone_28_29 at hq
  refine ev_seq 1 (ip' := 30) (loc' := [some (.ref 28), none, none, none, some (.int x4)]) (st' := [(.ref 28)]) (I1 := I) (T1 := T) rfl ?_
  refine ev_callV rfl rfl rfl (fun I1 T1 hq => ?_) (fun x I1 T1 hq => ?_) hq
  · refine ev_seq 1 (ip' := 34) (loc' := [some (.ref 28), none, none, none, some (.int x4)]) (st' := []) (I1 := I1) (T1 := T1) rfl ?_
    refine ev_fg [false, true, true, true, true] (loc' := [none, none, none, none, some (.int x4)]) rfl ?_
    exact s_Coach_isDone_28_34 (T := T1) hq
  · exact ⟨by decide, hq⟩
def t_Coach_isDone_28_32 (E : MEnv) (I : II) (T : TT) (Q : QQ) (x4 : Int32) : Prop := ev E 142 0 [some (.ref 28), none] [] I T (KV (fun I1 T1 => t_Coach_isDone_28_34 E I1 T1 Q x4) (fun x I1 T1 => Q (.inr x) I1 T1))
theorem s_Coach_isDone_28_32 {E : MEnv} {I : II} {T : TT} {Q : QQ} {x4 : Int32} (hq : t_Coach_isDone_28_32 E I T Q x4) : ev E 104 32 [some (.ref 28), none, none, none, some (.int x4)] [] I T Q := by
  unfold t_Coach_isDone_28_32 at hq
  refine ev_seq 1 (ip' := 33) (loc' := [some (.ref 28), none, none, none, some (.int x4)]) (st' := [(.ref 28)]) (I1 := I) (T1 := T) rfl ?_
  refine ev_callV rfl rfl rfl (fun I1 T1 hq => ?_) (fun x I1 T1 hq => ?_) hq
  · refine ev_fg [false, true, true, true, true] (loc' := [none, none, none, none, some (.int x4)]) rfl ?_
    exact s_Coach_isDone_28_34 (T := T1) hq
  · exact ⟨by decide, hq⟩
/-- FeltHarness$Coach.loadFrom([II)V -/
def t_Coach_loadFrom_28_33_15 (E : MEnv) (I : II) (T : TT) (Q : QQ) : Prop := Q (.inl none) I T
theorem s_Coach_loadFrom_28_33_15 {E : MEnv} {I : II} {T : TT} {Q : QQ} (hq : t_Coach_loadFrom_28_33_15 E I T Q) : ev E 178 15 [none, none, none] [] I T Q := by
  unfold t_Coach_loadFrom_28_33_15 at hq
  exact ev_ret rfl rfl hq
def t_Coach_loadFrom_28_33_0 (E : MEnv) (I : II) (T : TT) (Q : QQ) (x2 : Int32) : Prop := (x2 < 0 → (t_Coach_loadFrom_28_33_15 E I T Q )) ∧ (¬ (x2 < 0) → (((464 - 29) < x2 → (t_Coach_loadFrom_28_33_15 E I T Q )) ∧ (¬ ((464 - 29) < x2) → ((¬ x2 < 0 ∧ ¬ (0 : Int32) < 0 ∧ ¬ (29 : Int32) < 0 ∧ x2.toNatClampNeg + (29 : Int32).toNatClampNeg ≤ 464 ∧ (0 : Int32).toNatClampNeg + (29 : Int32).toNatClampNeg ≤ 29) ∧ (t_Coach_loadFrom_28_33_15 E (m_row I 29 (va_cpy (I 33) (I 29) x2.toNatClampNeg 0 29)) T Q )))))
theorem s_Coach_loadFrom_28_33_0 {E : MEnv} {I : II} {T : TT} {Q : QQ} {x2 : Int32} (hq : t_Coach_loadFrom_28_33_0 E I T Q x2) : ev E 178 0 [some (.ref 28), some (.ref 33), some (.int x2)] [] I T Q := by
  unfold t_Coach_loadFrom_28_33_0 at hq
  refine ev_seq 1 (ip' := 1) (loc' := [some (.ref 28), some (.ref 33), some (.int x2)]) (st' := [(.int x2)]) (I1 := I) (T1 := T) rfl ?_
  refine ev_br (p := x2 < 0) (a := 15) (b := 2) (st' := []) inferInstance rfl rfl (fun hb => ?_) (fun hb => ?_)
  · have hq := hq.1 hb
    refine ev_fg [false, false, false] (loc' := [none, none, none]) rfl ?_
    exact s_Coach_loadFrom_28_33_15 (T := T) hq
  · have hq := hq.2 hb
    refine ev_seq 5 (ip' := 7) (loc' := [some (.ref 28), some (.ref 33), some (.int x2)]) (st' := [(.int (464 - 29)), (.int x2)]) (I1 := I) (T1 := T) rfl ?_
    refine ev_br (p := (464 - 29) < x2) (a := 15) (b := 8) (st' := []) inferInstance rfl rfl (fun hb => ?_) (fun hb => ?_)
    · have hq := hq.1 hb
      refine ev_fg [false, false, false] (loc' := [none, none, none]) rfl ?_
      exact s_Coach_loadFrom_28_33_15 (T := T) hq
    · have hq := hq.2 hb
      refine ev_seq 6 (ip' := 14) (loc' := [some (.ref 28), some (.ref 33), some (.int x2)]) (st' := [(.int 29), (.int 0), (.ref 29), (.int x2), (.ref 33)]) (I1 := I) (T1 := T) rfl ?_
      obtain ⟨hg, hq⟩ := hq
      refine ev_cpy (c := 33) (d := 29) rfl rfl rfl hg (by decide) ?_
      refine ev_fg [false, false, false] (loc' := [none, none, none]) rfl ?_
      exact s_Coach_loadFrom_28_33_15 (T := T) hq
/-- FeltHarness$Coach.loadFrom([II)V -/
def t_Coach_loadFrom_28_34_15 (E : MEnv) (I : II) (T : TT) (Q : QQ) : Prop := Q (.inl none) I T
theorem s_Coach_loadFrom_28_34_15 {E : MEnv} {I : II} {T : TT} {Q : QQ} (hq : t_Coach_loadFrom_28_34_15 E I T Q) : ev E 178 15 [none, none, none] [] I T Q := by
  unfold t_Coach_loadFrom_28_34_15 at hq
  exact ev_ret rfl rfl hq
def t_Coach_loadFrom_28_34_0 (E : MEnv) (I : II) (T : TT) (Q : QQ) (x2 : Int32) : Prop := (x2 < 0 → (t_Coach_loadFrom_28_34_15 E I T Q )) ∧ (¬ (x2 < 0) → (((1479 - 29) < x2 → (t_Coach_loadFrom_28_34_15 E I T Q )) ∧ (¬ ((1479 - 29) < x2) → ((¬ x2 < 0 ∧ ¬ (0 : Int32) < 0 ∧ ¬ (29 : Int32) < 0 ∧ x2.toNatClampNeg + (29 : Int32).toNatClampNeg ≤ 1479 ∧ (0 : Int32).toNatClampNeg + (29 : Int32).toNatClampNeg ≤ 29) ∧ (t_Coach_loadFrom_28_34_15 E (m_row I 29 (va_cpy (I 34) (I 29) x2.toNatClampNeg 0 29)) T Q )))))
theorem s_Coach_loadFrom_28_34_0 {E : MEnv} {I : II} {T : TT} {Q : QQ} {x2 : Int32} (hq : t_Coach_loadFrom_28_34_0 E I T Q x2) : ev E 178 0 [some (.ref 28), some (.ref 34), some (.int x2)] [] I T Q := by
  unfold t_Coach_loadFrom_28_34_0 at hq
  refine ev_seq 1 (ip' := 1) (loc' := [some (.ref 28), some (.ref 34), some (.int x2)]) (st' := [(.int x2)]) (I1 := I) (T1 := T) rfl ?_
  refine ev_br (p := x2 < 0) (a := 15) (b := 2) (st' := []) inferInstance rfl rfl (fun hb => ?_) (fun hb => ?_)
  · have hq := hq.1 hb
    refine ev_fg [false, false, false] (loc' := [none, none, none]) rfl ?_
    exact s_Coach_loadFrom_28_34_15 (T := T) hq
  · have hq := hq.2 hb
    refine ev_seq 5 (ip' := 7) (loc' := [some (.ref 28), some (.ref 34), some (.int x2)]) (st' := [(.int (1479 - 29)), (.int x2)]) (I1 := I) (T1 := T) rfl ?_
    refine ev_br (p := (1479 - 29) < x2) (a := 15) (b := 8) (st' := []) inferInstance rfl rfl (fun hb => ?_) (fun hb => ?_)
    · have hq := hq.1 hb
      refine ev_fg [false, false, false] (loc' := [none, none, none]) rfl ?_
      exact s_Coach_loadFrom_28_34_15 (T := T) hq
    · have hq := hq.2 hb
      refine ev_seq 6 (ip' := 14) (loc' := [some (.ref 28), some (.ref 34), some (.int x2)]) (st' := [(.int 29), (.int 0), (.ref 29), (.int x2), (.ref 34)]) (I1 := I) (T1 := T) rfl ?_
      obtain ⟨hg, hq⟩ := hq
      refine ev_cpy (c := 34) (d := 29) rfl rfl rfl hg (by decide) ?_
      refine ev_fg [false, false, false] (loc' := [none, none, none]) rfl ?_
      exact s_Coach_loadFrom_28_34_15 (T := T) hq
/-- FeltHarness$Coach.outcomeAsWeighed(I)I -/
def t_Coach_outcomeAsWeighed_28_30 (E : MEnv) (I : II) (T : TT) (Q : QQ) (y0 : Int32) : Prop := Q (.inl (some (.int y0))) I T
theorem s_Coach_outcomeAsWeighed_28_30 {E : MEnv} {I : II} {T : TT} {Q : QQ} {y0 : Int32} (hq : t_Coach_outcomeAsWeighed_28_30 E I T Q y0) : ev E 133 30 [none, none] [(.int y0)] I T Q := by
  unfold t_Coach_outcomeAsWeighed_28_30 at hq
  exact ev_ret rfl rfl hq
def t_Coach_outcomeAsWeighed_28_0 (E : MEnv) (I : II) (T : TT) (Q : QQ) (x1 : Int32) : Prop := ev E 134 0 [some (.ref 3), some (.int x1)] [] I T (KI (fun v1 I1 T1 => (v1 ≤ ((I 28 3) + (I 28 4)) → (ev E 137 0 [some (.ref 3), some (.int x1)] [] I1 T1 (KI (fun v2 I2 T2 => (((if 0 ≤ ((I1 28 3) - (I1 28 4)) then ((I1 28 3) - (I1 28 4)) else 0 - ((I1 28 3) - (I1 28 4))) + v2) ≤ (I2 3 7) → (t_Coach_outcomeAsWeighed_28_30 E I2 T2 Q 2)) ∧ (¬ (((if 0 ≤ ((I1 28 3) - (I1 28 4)) then ((I1 28 3) - (I1 28 4)) else 0 - ((I1 28 3) - (I1 28 4))) + v2) ≤ (I2 3 7)) → (t_Coach_outcomeAsWeighed_28_30 E I2 T2 Q 1))) (fun x I1 T1 => Q (.inr x) I1 T1)))) ∧ (¬ (v1 ≤ ((I 28 3) + (I 28 4))) → (Q (.inl (some (.int 0))) I1 T1))) (fun x I1 T1 => Q (.inr x) I1 T1))
theorem s_Coach_outcomeAsWeighed_28_0 {E : MEnv} {I : II} {T : TT} {Q : QQ} {x1 : Int32} (hq : t_Coach_outcomeAsWeighed_28_0 E I T Q x1) : ev E 133 0 [some (.ref 28), some (.int x1)] [] I T Q := by
  unfold t_Coach_outcomeAsWeighed_28_0 at hq
  refine ev_seq 8 (ip' := 8) (loc' := [some (.ref 28), some (.int x1)]) (st' := [(.int x1), (.ref 3), (.int ((I 28 3) + (I 28 4)))]) (I1 := I) (T1 := T) rfl ?_
  refine ev_callI rfl rfl rfl (fun v1 I1 T1 hq => ?_) (fun x I1 T1 hq => ?_) hq
  · refine ev_br (p := v1 ≤ ((I 28 3) + (I 28 4))) (a := 12) (b := 10) (st' := []) inferInstance rfl rfl (fun hb => ?_) (fun hb => ?_)
    · have hq := hq.1 hb
      refine ev_seq 9 (ip' := 21) (loc' := [some (.ref 28), some (.int x1)]) (st' := [(.int x1), (.ref 3), (.int (if 0 ≤ ((I1 28 3) - (I1 28 4)) then ((I1 28 3) - (I1 28 4)) else 0 - ((I1 28 3) - (I1 28 4))))]) (I1 := I1) (T1 := T1) rfl ?_
      refine ev_callI rfl rfl rfl (fun v2 I2 T2 hq => ?_) (fun x I1 T1 hq => ?_) hq
      · refine ev_seq 4 (ip' := 26) (loc' := [some (.ref 28), some (.int x1)]) (st' := [(.int (I2 3 7)), (.int ((if 0 ≤ ((I1 28 3) - (I1 28 4)) then ((I1 28 3) - (I1 28 4)) else 0 - ((I1 28 3) - (I1 28 4))) + v2))]) (I1 := I2) (T1 := T2) rfl ?_
        refine ev_br (p := ((if 0 ≤ ((I1 28 3) - (I1 28 4)) then ((I1 28 3) - (I1 28 4)) else 0 - ((I1 28 3) - (I1 28 4))) + v2) ≤ (I2 3 7)) (a := 29) (b := 27) (st' := []) inferInstance rfl rfl (fun hb => ?_) (fun hb => ?_)
        · have hq := hq.1 hb
          refine ev_seq 1 (ip' := 30) (loc' := [some (.ref 28), some (.int x1)]) (st' := [(.int 2)]) (I1 := I2) (T1 := T2) rfl ?_
          refine ev_fg [false, false] (loc' := [none, none]) rfl ?_
          exact s_Coach_outcomeAsWeighed_28_30 (T := T2) hq
        · have hq := hq.2 hb
          refine ev_seq 2 (ip' := 30) (loc' := [some (.ref 28), some (.int x1)]) (st' := [(.int 1)]) (I1 := I2) (T1 := T2) rfl ?_
          refine ev_fg [false, false] (loc' := [none, none]) rfl ?_
          exact s_Coach_outcomeAsWeighed_28_30 (T := T2) hq
      · exact ⟨by decide, hq⟩
    · have hq := hq.2 hb
      refine ev_seq 1 (ip' := 11) (loc' := [some (.ref 28), some (.int x1)]) (st' := [(.int 0)]) (I1 := I1) (T1 := T1) rfl ?_
      exact ev_ret rfl rfl hq
  · exact ⟨by decide, hq⟩
/-- FeltHarness$Coach.outcomeAsWeighed(I)I -/
def t_Coach_outcomeAsWeighed_30_30 (E : MEnv) (I : II) (T : TT) (Q : QQ) (y0 : Int32) : Prop := Q (.inl (some (.int y0))) I T
theorem s_Coach_outcomeAsWeighed_30_30 {E : MEnv} {I : II} {T : TT} {Q : QQ} {y0 : Int32} (hq : t_Coach_outcomeAsWeighed_30_30 E I T Q y0) : ev E 133 30 [none, none] [(.int y0)] I T Q := by
  unfold t_Coach_outcomeAsWeighed_30_30 at hq
  exact ev_ret rfl rfl hq
def t_Coach_outcomeAsWeighed_30_0 (E : MEnv) (I : II) (T : TT) (Q : QQ) (x1 : Int32) : Prop := ev E 134 0 [some (.ref 3), some (.int x1)] [] I T (KI (fun v1 I1 T1 => (v1 ≤ ((I 30 3) + (I 30 4)) → (ev E 137 0 [some (.ref 3), some (.int x1)] [] I1 T1 (KI (fun v2 I2 T2 => (((if 0 ≤ ((I1 30 3) - (I1 30 4)) then ((I1 30 3) - (I1 30 4)) else 0 - ((I1 30 3) - (I1 30 4))) + v2) ≤ (I2 3 7) → (t_Coach_outcomeAsWeighed_30_30 E I2 T2 Q 2)) ∧ (¬ (((if 0 ≤ ((I1 30 3) - (I1 30 4)) then ((I1 30 3) - (I1 30 4)) else 0 - ((I1 30 3) - (I1 30 4))) + v2) ≤ (I2 3 7)) → (t_Coach_outcomeAsWeighed_30_30 E I2 T2 Q 1))) (fun x I1 T1 => Q (.inr x) I1 T1)))) ∧ (¬ (v1 ≤ ((I 30 3) + (I 30 4))) → (Q (.inl (some (.int 0))) I1 T1))) (fun x I1 T1 => Q (.inr x) I1 T1))
theorem s_Coach_outcomeAsWeighed_30_0 {E : MEnv} {I : II} {T : TT} {Q : QQ} {x1 : Int32} (hq : t_Coach_outcomeAsWeighed_30_0 E I T Q x1) : ev E 133 0 [some (.ref 30), some (.int x1)] [] I T Q := by
  unfold t_Coach_outcomeAsWeighed_30_0 at hq
  refine ev_seq 8 (ip' := 8) (loc' := [some (.ref 30), some (.int x1)]) (st' := [(.int x1), (.ref 3), (.int ((I 30 3) + (I 30 4)))]) (I1 := I) (T1 := T) rfl ?_
  refine ev_callI rfl rfl rfl (fun v1 I1 T1 hq => ?_) (fun x I1 T1 hq => ?_) hq
  · refine ev_br (p := v1 ≤ ((I 30 3) + (I 30 4))) (a := 12) (b := 10) (st' := []) inferInstance rfl rfl (fun hb => ?_) (fun hb => ?_)
    · have hq := hq.1 hb
      refine ev_seq 9 (ip' := 21) (loc' := [some (.ref 30), some (.int x1)]) (st' := [(.int x1), (.ref 3), (.int (if 0 ≤ ((I1 30 3) - (I1 30 4)) then ((I1 30 3) - (I1 30 4)) else 0 - ((I1 30 3) - (I1 30 4))))]) (I1 := I1) (T1 := T1) rfl ?_
      refine ev_callI rfl rfl rfl (fun v2 I2 T2 hq => ?_) (fun x I1 T1 hq => ?_) hq
      · refine ev_seq 4 (ip' := 26) (loc' := [some (.ref 30), some (.int x1)]) (st' := [(.int (I2 3 7)), (.int ((if 0 ≤ ((I1 30 3) - (I1 30 4)) then ((I1 30 3) - (I1 30 4)) else 0 - ((I1 30 3) - (I1 30 4))) + v2))]) (I1 := I2) (T1 := T2) rfl ?_
        refine ev_br (p := ((if 0 ≤ ((I1 30 3) - (I1 30 4)) then ((I1 30 3) - (I1 30 4)) else 0 - ((I1 30 3) - (I1 30 4))) + v2) ≤ (I2 3 7)) (a := 29) (b := 27) (st' := []) inferInstance rfl rfl (fun hb => ?_) (fun hb => ?_)
        · have hq := hq.1 hb
          refine ev_seq 1 (ip' := 30) (loc' := [some (.ref 30), some (.int x1)]) (st' := [(.int 2)]) (I1 := I2) (T1 := T2) rfl ?_
          refine ev_fg [false, false] (loc' := [none, none]) rfl ?_
          exact s_Coach_outcomeAsWeighed_30_30 (T := T2) hq
        · have hq := hq.2 hb
          refine ev_seq 2 (ip' := 30) (loc' := [some (.ref 30), some (.int x1)]) (st' := [(.int 1)]) (I1 := I2) (T1 := T2) rfl ?_
          refine ev_fg [false, false] (loc' := [none, none]) rfl ?_
          exact s_Coach_outcomeAsWeighed_30_30 (T := T2) hq
      · exact ⟨by decide, hq⟩
    · have hq := hq.2 hb
      refine ev_seq 1 (ip' := 11) (loc' := [some (.ref 30), some (.int x1)]) (st' := [(.int 0)]) (I1 := I1) (T1 := T1) rfl ?_
      exact ev_ret rfl rfl hq
  · exact ⟨by decide, hq⟩
/-- FeltHarness$Coach.outcome(I)I -/
def t_Coach_outcome_28_0 (E : MEnv) (I : II) (T : TT) (Q : QQ) (x1 : Int32) : Prop := ev E 121 0 [some (.ref 28), none, none, none, none] [] I T (KV (fun I1 T1 => ev E 133 0 [some (.ref 28), some (.int x1)] [] I1 T1 (KI (fun v2 I2 T2 => Q (.inl (some (.int v2))) I2 T2) (fun x I1 T1 => Q (.inr x) I1 T1))) (fun x I1 T1 => Q (.inr x) I1 T1))
theorem s_Coach_outcome_28_0 {E : MEnv} {I : II} {T : TT} {Q : QQ} {x1 : Int32} (hq : t_Coach_outcome_28_0 E I T Q x1) : ev E 209 0 [some (.ref 28), some (.int x1)] [] I T Q := by
  unfold t_Coach_outcome_28_0 at hq
  refine ev_seq 1 (ip' := 1) (loc' := [some (.ref 28), some (.int x1)]) (st' := [(.ref 28)]) (I1 := I) (T1 := T) rfl ?_
  refine ev_callV rfl rfl rfl (fun I1 T1 hq => ?_) (fun x I1 T1 hq => ?_) hq
  · refine ev_seq 2 (ip' := 4) (loc' := [some (.ref 28), some (.int x1)]) (st' := [(.int x1), (.ref 28)]) (I1 := I1) (T1 := T1) rfl ?_
    refine ev_callI rfl rfl rfl (fun v2 I2 T2 hq => ?_) (fun x I1 T1 hq => ?_) hq
    · exact ev_ret rfl rfl hq
    · exact ⟨by decide, hq⟩
  · exact ⟨by decide, hq⟩
/-- FeltHarness$Coach.outcome(I)I -/
def t_Coach_outcome_30_0 (E : MEnv) (I : II) (T : TT) (Q : QQ) (x1 : Int32) : Prop := ev E 121 0 [some (.ref 30), none, none, none, none] [] I T (KV (fun I1 T1 => ev E 133 0 [some (.ref 30), some (.int x1)] [] I1 T1 (KI (fun v2 I2 T2 => Q (.inl (some (.int v2))) I2 T2) (fun x I1 T1 => Q (.inr x) I1 T1))) (fun x I1 T1 => Q (.inr x) I1 T1))
theorem s_Coach_outcome_30_0 {E : MEnv} {I : II} {T : TT} {Q : QQ} {x1 : Int32} (hq : t_Coach_outcome_30_0 E I T Q x1) : ev E 209 0 [some (.ref 30), some (.int x1)] [] I T Q := by
  unfold t_Coach_outcome_30_0 at hq
  refine ev_seq 1 (ip' := 1) (loc' := [some (.ref 30), some (.int x1)]) (st' := [(.ref 30)]) (I1 := I) (T1 := T) rfl ?_
  refine ev_callV rfl rfl rfl (fun I1 T1 hq => ?_) (fun x I1 T1 hq => ?_) hq
  · refine ev_seq 2 (ip' := 4) (loc' := [some (.ref 30), some (.int x1)]) (st' := [(.int x1), (.ref 30)]) (I1 := I1) (T1 := T1) rfl ?_
    refine ev_callI rfl rfl rfl (fun v2 I2 T2 hq => ?_) (fun x I1 T1 hq => ?_) hq
    · exact ev_ret rfl rfl hq
    · exact ⟨by decide, hq⟩
  · exact ⟨by decide, hq⟩
/-- FeltHarness$Coach.placeOf(I)I -/
def t_Coach_placeOf_28_13 (E : MEnv) (I : II) (T : TT) (Q : QQ) (y0 : Int32) : Prop := Q (.inl (some (.int y0))) I T
theorem s_Coach_placeOf_28_13 {E : MEnv} {I : II} {T : TT} {Q : QQ} {y0 : Int32} (hq : t_Coach_placeOf_28_13 E I T Q y0) : ev E 109 13 [none, none] [(.int y0)] I T Q := by
  unfold t_Coach_placeOf_28_13 at hq
  exact ev_ret rfl rfl hq
def t_Coach_placeOf_28_0 (E : MEnv) (I : II) (T : TT) (Q : QQ) (x1 : Int32) : Prop := ev E 107 0 [some (.ref 3), some (.int x1)] [] I T (KI (fun v1 I1 T1 => (v1 = 0 → (t_Coach_placeOf_28_13 E I1 T1 Q (-1))) ∧ (¬ (v1 = 0) → ((¬ (0 + x1) < 0 ∧ (0 + x1).toNatClampNeg < 29) ∧ (t_Coach_placeOf_28_13 E I1 T1 Q (I1 29 (0 + x1).toNatClampNeg))))) (fun x I1 T1 => Q (.inr x) I1 T1))
theorem s_Coach_placeOf_28_0 {E : MEnv} {I : II} {T : TT} {Q : QQ} {x1 : Int32} (hq : t_Coach_placeOf_28_0 E I T Q x1) : ev E 109 0 [some (.ref 28), some (.int x1)] [] I T Q := by
  unfold t_Coach_placeOf_28_0 at hq
  refine ev_seq 3 (ip' := 3) (loc' := [some (.ref 28), some (.int x1)]) (st' := [(.int x1), (.ref 3)]) (I1 := I) (T1 := T) rfl ?_
  refine ev_callI rfl rfl rfl (fun v1 I1 T1 hq => ?_) (fun x I1 T1 hq => ?_) hq
  · refine ev_br (p := v1 = 0) (a := 12) (b := 5) (st' := []) inferInstance rfl rfl (fun hb => ?_) (fun hb => ?_)
    · have hq := hq.1 hb
      refine ev_seq 1 (ip' := 13) (loc' := [some (.ref 28), some (.int x1)]) (st' := [(.int (-1))]) (I1 := I1) (T1 := T1) rfl ?_
      refine ev_fg [false, false] (loc' := [none, none]) rfl ?_
      exact s_Coach_placeOf_28_13 (T := T1) hq
    · have hq := hq.2 hb
      refine ev_seq 5 (ip' := 10) (loc' := [some (.ref 28), some (.int x1)]) (st' := [(.int (0 + x1)), (.ref 29)]) (I1 := I1) (T1 := T1) rfl ?_
      obtain ⟨hg, hq⟩ := hq
      refine ev_iald rfl rfl hg ?_
      refine ev_seq 1 (ip' := 13) (loc' := [some (.ref 28), some (.int x1)]) (st' := [(.int (I1 29 (0 + x1).toNatClampNeg))]) (I1 := I1) (T1 := T1) rfl ?_
      refine ev_fg [false, false] (loc' := [none, none]) rfl ?_
      exact s_Coach_placeOf_28_13 (T := T1) hq
  · exact ⟨by decide, hq⟩
/-- FeltHarness$Coach.placeOf(I)I -/
def t_Coach_placeOf_30_13 (E : MEnv) (I : II) (T : TT) (Q : QQ) (y0 : Int32) : Prop := Q (.inl (some (.int y0))) I T
theorem s_Coach_placeOf_30_13 {E : MEnv} {I : II} {T : TT} {Q : QQ} {y0 : Int32} (hq : t_Coach_placeOf_30_13 E I T Q y0) : ev E 109 13 [none, none] [(.int y0)] I T Q := by
  unfold t_Coach_placeOf_30_13 at hq
  exact ev_ret rfl rfl hq
def t_Coach_placeOf_30_0 (E : MEnv) (I : II) (T : TT) (Q : QQ) (x1 : Int32) : Prop := ev E 107 0 [some (.ref 3), some (.int x1)] [] I T (KI (fun v1 I1 T1 => (v1 = 0 → (t_Coach_placeOf_30_13 E I1 T1 Q (-1))) ∧ (¬ (v1 = 0) → ((¬ (0 + x1) < 0 ∧ (0 + x1).toNatClampNeg < 29) ∧ (t_Coach_placeOf_30_13 E I1 T1 Q (I1 31 (0 + x1).toNatClampNeg))))) (fun x I1 T1 => Q (.inr x) I1 T1))
theorem s_Coach_placeOf_30_0 {E : MEnv} {I : II} {T : TT} {Q : QQ} {x1 : Int32} (hq : t_Coach_placeOf_30_0 E I T Q x1) : ev E 109 0 [some (.ref 30), some (.int x1)] [] I T Q := by
  unfold t_Coach_placeOf_30_0 at hq
  refine ev_seq 3 (ip' := 3) (loc' := [some (.ref 30), some (.int x1)]) (st' := [(.int x1), (.ref 3)]) (I1 := I) (T1 := T) rfl ?_
  refine ev_callI rfl rfl rfl (fun v1 I1 T1 hq => ?_) (fun x I1 T1 hq => ?_) hq
  · refine ev_br (p := v1 = 0) (a := 12) (b := 5) (st' := []) inferInstance rfl rfl (fun hb => ?_) (fun hb => ?_)
    · have hq := hq.1 hb
      refine ev_seq 1 (ip' := 13) (loc' := [some (.ref 30), some (.int x1)]) (st' := [(.int (-1))]) (I1 := I1) (T1 := T1) rfl ?_
      refine ev_fg [false, false] (loc' := [none, none]) rfl ?_
      exact s_Coach_placeOf_30_13 (T := T1) hq
    · have hq := hq.2 hb
      refine ev_seq 5 (ip' := 10) (loc' := [some (.ref 30), some (.int x1)]) (st' := [(.int (0 + x1)), (.ref 31)]) (I1 := I1) (T1 := T1) rfl ?_
      obtain ⟨hg, hq⟩ := hq
      refine ev_iald rfl rfl hg ?_
      refine ev_seq 1 (ip' := 13) (loc' := [some (.ref 30), some (.int x1)]) (st' := [(.int (I1 31 (0 + x1).toNatClampNeg))]) (I1 := I1) (T1 := T1) rfl ?_
      refine ev_fg [false, false] (loc' := [none, none]) rfl ?_
      exact s_Coach_placeOf_30_13 (T := T1) hq
  · exact ⟨by decide, hq⟩
/-- FeltHarness$Coach.restOneDay()V -/
def t_Coach_restOneDay_28_2 (E : MEnv) (I : II) (T : TT) (Q : QQ) (x1 : Int32) : Prop := ((I 3 5) ≤ x1 → (Q (.inl none) (m_up I 29 24 ((I 29 24) + 1)) T)) ∧ (¬ ((I 3 5) ≤ x1) → (ev E 127 0 [some (.ref 28), some (.int x1)] [] I T (KI (fun v1 I1 T1 => ev E 143 0 [some (.ref 28), some (.int x1)] [] I1 T1 (KI (fun v2 I2 T2 => ev E 139 0 [some (.ref 28), some (.int x1), some (.int (v1 - v2))] [] I2 T2 (KV (fun I3 T3 => ev E 142 2 [some (.ref 28), some (.int (x1 + 1))] [] I3 T3 Q) (fun x I1 T1 => Q (.inr x) I1 T1))) (fun x I1 T1 => Q (.inr x) I1 T1))) (fun x I1 T1 => Q (.inr x) I1 T1))))
theorem s_Coach_restOneDay_28_2 {E : MEnv} {I : II} {T : TT} {Q : QQ} {x1 : Int32} (hq : t_Coach_restOneDay_28_2 E I T Q x1) : ev E 142 2 [some (.ref 28), some (.int x1)] [] I T Q := by
  unfold t_Coach_restOneDay_28_2 at hq
  refine ev_seq 4 (ip' := 6) (loc' := [some (.ref 28), some (.int x1)]) (st' := [(.int (I 3 5)), (.int x1)]) (I1 := I) (T1 := T) rfl ?_
  refine ev_br (p := (I 3 5) ≤ x1) (a := 19) (b := 7) (st' := []) inferInstance rfl rfl (fun hb => ?_) (fun hb => ?_)
  · have hq := hq.1 hb
    refine ev_seq 8 (ip' := 27) (loc' := [some (.ref 28), some (.int x1)]) (st' := []) (I1 := m_up I 29 24 ((I 29 24) + 1)) (T1 := T) rfl ?_
    exact ev_ret rfl rfl hq
  · have hq := hq.2 hb
    refine ev_seq 4 (ip' := 11) (loc' := [some (.ref 28), some (.int x1)]) (st' := [(.int x1), (.ref 28), (.int x1), (.ref 28)]) (I1 := I) (T1 := T) rfl ?_
    refine ev_callI rfl rfl rfl (fun v1 I1 T1 hq => ?_) (fun x I1 T1 hq => ?_) hq
    · refine ev_seq 2 (ip' := 14) (loc' := [some (.ref 28), some (.int x1)]) (st' := [(.int x1), (.ref 28), (.int v1), (.int x1), (.ref 28)]) (I1 := I1) (T1 := T1) rfl ?_
      refine ev_callI rfl rfl rfl (fun v2 I2 T2 hq => ?_) (fun x I1 T1 hq => ?_) hq
      · refine ev_seq 1 (ip' := 16) (loc' := [some (.ref 28), some (.int x1)]) (st' := [(.int (v1 - v2)), (.int x1), (.ref 28)]) (I1 := I2) (T1 := T2) rfl ?_
        refine ev_callV rfl rfl rfl (fun I3 T3 hq => ?_) (fun x I1 T1 hq => ?_) hq
        · refine ev_seq 2 (ip' := 2) (loc' := [some (.ref 28), some (.int (x1 + 1))]) (st' := []) (I1 := I3) (T1 := T3) rfl ?_
          exact hq
        · exact ⟨by decide, hq⟩
      · exact ⟨by decide, hq⟩
    · exact ⟨by decide, hq⟩
def t_Coach_restOneDay_28_0 (E : MEnv) (I : II) (T : TT) (Q : QQ) : Prop := t_Coach_restOneDay_28_2 E I T Q 0
theorem s_Coach_restOneDay_28_0 {E : MEnv} {I : II} {T : TT} {Q : QQ} (hq : t_Coach_restOneDay_28_0 E I T Q) : ev E 142 0 [some (.ref 28), none] [] I T Q := by
  unfold t_Coach_restOneDay_28_0 at hq
  refine ev_seq 2 (ip' := 2) (loc' := [some (.ref 28), some (.int 0)]) (st' := []) (I1 := I) (T1 := T) rfl ?_
  exact s_Coach_restOneDay_28_2 (T := T) hq
/-- FeltHarness$Coach.restOneDay()V -/
def t_Coach_restOneDay_30_2 (E : MEnv) (I : II) (T : TT) (Q : QQ) (x1 : Int32) : Prop := ((I 3 5) ≤ x1 → (Q (.inl none) (m_up I 31 24 ((I 31 24) + 1)) T)) ∧ (¬ ((I 3 5) ≤ x1) → (ev E 127 0 [some (.ref 30), some (.int x1)] [] I T (KI (fun v1 I1 T1 => ev E 143 0 [some (.ref 30), some (.int x1)] [] I1 T1 (KI (fun v2 I2 T2 => ev E 139 0 [some (.ref 30), some (.int x1), some (.int (v1 - v2))] [] I2 T2 (KV (fun I3 T3 => ev E 142 2 [some (.ref 30), some (.int (x1 + 1))] [] I3 T3 Q) (fun x I1 T1 => Q (.inr x) I1 T1))) (fun x I1 T1 => Q (.inr x) I1 T1))) (fun x I1 T1 => Q (.inr x) I1 T1))))
theorem s_Coach_restOneDay_30_2 {E : MEnv} {I : II} {T : TT} {Q : QQ} {x1 : Int32} (hq : t_Coach_restOneDay_30_2 E I T Q x1) : ev E 142 2 [some (.ref 30), some (.int x1)] [] I T Q := by
  unfold t_Coach_restOneDay_30_2 at hq
  refine ev_seq 4 (ip' := 6) (loc' := [some (.ref 30), some (.int x1)]) (st' := [(.int (I 3 5)), (.int x1)]) (I1 := I) (T1 := T) rfl ?_
  refine ev_br (p := (I 3 5) ≤ x1) (a := 19) (b := 7) (st' := []) inferInstance rfl rfl (fun hb => ?_) (fun hb => ?_)
  · have hq := hq.1 hb
    refine ev_seq 8 (ip' := 27) (loc' := [some (.ref 30), some (.int x1)]) (st' := []) (I1 := m_up I 31 24 ((I 31 24) + 1)) (T1 := T) rfl ?_
    exact ev_ret rfl rfl hq
  · have hq := hq.2 hb
    refine ev_seq 4 (ip' := 11) (loc' := [some (.ref 30), some (.int x1)]) (st' := [(.int x1), (.ref 30), (.int x1), (.ref 30)]) (I1 := I) (T1 := T) rfl ?_
    refine ev_callI rfl rfl rfl (fun v1 I1 T1 hq => ?_) (fun x I1 T1 hq => ?_) hq
    · refine ev_seq 2 (ip' := 14) (loc' := [some (.ref 30), some (.int x1)]) (st' := [(.int x1), (.ref 30), (.int v1), (.int x1), (.ref 30)]) (I1 := I1) (T1 := T1) rfl ?_
      refine ev_callI rfl rfl rfl (fun v2 I2 T2 hq => ?_) (fun x I1 T1 hq => ?_) hq
      · refine ev_seq 1 (ip' := 16) (loc' := [some (.ref 30), some (.int x1)]) (st' := [(.int (v1 - v2)), (.int x1), (.ref 30)]) (I1 := I2) (T1 := T2) rfl ?_
        refine ev_callV rfl rfl rfl (fun I3 T3 hq => ?_) (fun x I1 T1 hq => ?_) hq
        · refine ev_seq 2 (ip' := 2) (loc' := [some (.ref 30), some (.int (x1 + 1))]) (st' := []) (I1 := I3) (T1 := T3) rfl ?_
          exact hq
        · exact ⟨by decide, hq⟩
      · exact ⟨by decide, hq⟩
    · exact ⟨by decide, hq⟩
def t_Coach_restOneDay_30_0 (E : MEnv) (I : II) (T : TT) (Q : QQ) : Prop := t_Coach_restOneDay_30_2 E I T Q 0
theorem s_Coach_restOneDay_30_0 {E : MEnv} {I : II} {T : TT} {Q : QQ} (hq : t_Coach_restOneDay_30_0 E I T Q) : ev E 142 0 [some (.ref 30), none] [] I T Q := by
  unfold t_Coach_restOneDay_30_0 at hq
  refine ev_seq 2 (ip' := 2) (loc' := [some (.ref 30), some (.int 0)]) (st' := []) (I1 := I) (T1 := T) rfl ?_
  exact s_Coach_restOneDay_30_2 (T := T) hq
/-- FeltHarness$Coach.saveTo([II)V -/
def t_Coach_saveTo_28_33_15 (E : MEnv) (I : II) (T : TT) (Q : QQ) : Prop := Q (.inl none) I T
theorem s_Coach_saveTo_28_33_15 {E : MEnv} {I : II} {T : TT} {Q : QQ} (hq : t_Coach_saveTo_28_33_15 E I T Q) : ev E 100 15 [none, none, none] [] I T Q := by
  unfold t_Coach_saveTo_28_33_15 at hq
  exact ev_ret rfl rfl hq
def t_Coach_saveTo_28_33_0 (E : MEnv) (I : II) (T : TT) (Q : QQ) (x2 : Int32) : Prop := (x2 < 0 → (t_Coach_saveTo_28_33_15 E I T Q )) ∧ (¬ (x2 < 0) → (((464 - 29) < x2 → (t_Coach_saveTo_28_33_15 E I T Q )) ∧ (¬ ((464 - 29) < x2) → ((¬ (0 : Int32) < 0 ∧ ¬ x2 < 0 ∧ ¬ (29 : Int32) < 0 ∧ (0 : Int32).toNatClampNeg + (29 : Int32).toNatClampNeg ≤ 29 ∧ x2.toNatClampNeg + (29 : Int32).toNatClampNeg ≤ 464) ∧ (t_Coach_saveTo_28_33_15 E (m_row I 33 (va_cpy (I 29) (I 33) 0 x2.toNatClampNeg 29)) T Q )))))
theorem s_Coach_saveTo_28_33_0 {E : MEnv} {I : II} {T : TT} {Q : QQ} {x2 : Int32} (hq : t_Coach_saveTo_28_33_0 E I T Q x2) : ev E 100 0 [some (.ref 28), some (.ref 33), some (.int x2)] [] I T Q := by
  unfold t_Coach_saveTo_28_33_0 at hq
  refine ev_seq 1 (ip' := 1) (loc' := [some (.ref 28), some (.ref 33), some (.int x2)]) (st' := [(.int x2)]) (I1 := I) (T1 := T) rfl ?_
  refine ev_br (p := x2 < 0) (a := 15) (b := 2) (st' := []) inferInstance rfl rfl (fun hb => ?_) (fun hb => ?_)
  · have hq := hq.1 hb
    refine ev_fg [false, false, false] (loc' := [none, none, none]) rfl ?_
    exact s_Coach_saveTo_28_33_15 (T := T) hq
  · have hq := hq.2 hb
    refine ev_seq 5 (ip' := 7) (loc' := [some (.ref 28), some (.ref 33), some (.int x2)]) (st' := [(.int (464 - 29)), (.int x2)]) (I1 := I) (T1 := T) rfl ?_
    refine ev_br (p := (464 - 29) < x2) (a := 15) (b := 8) (st' := []) inferInstance rfl rfl (fun hb => ?_) (fun hb => ?_)
    · have hq := hq.1 hb
      refine ev_fg [false, false, false] (loc' := [none, none, none]) rfl ?_
      exact s_Coach_saveTo_28_33_15 (T := T) hq
    · have hq := hq.2 hb
      refine ev_seq 6 (ip' := 14) (loc' := [some (.ref 28), some (.ref 33), some (.int x2)]) (st' := [(.int 29), (.int x2), (.ref 33), (.int 0), (.ref 29)]) (I1 := I) (T1 := T) rfl ?_
      obtain ⟨hg, hq⟩ := hq
      refine ev_cpy (c := 29) (d := 33) rfl rfl rfl hg (by decide) ?_
      refine ev_fg [false, false, false] (loc' := [none, none, none]) rfl ?_
      exact s_Coach_saveTo_28_33_15 (T := T) hq
/-- FeltHarness$Coach.saveTo([II)V -/
def t_Coach_saveTo_28_34_15 (E : MEnv) (I : II) (T : TT) (Q : QQ) : Prop := Q (.inl none) I T
theorem s_Coach_saveTo_28_34_15 {E : MEnv} {I : II} {T : TT} {Q : QQ} (hq : t_Coach_saveTo_28_34_15 E I T Q) : ev E 100 15 [none, none, none] [] I T Q := by
  unfold t_Coach_saveTo_28_34_15 at hq
  exact ev_ret rfl rfl hq
def t_Coach_saveTo_28_34_0 (E : MEnv) (I : II) (T : TT) (Q : QQ) (x2 : Int32) : Prop := (x2 < 0 → (t_Coach_saveTo_28_34_15 E I T Q )) ∧ (¬ (x2 < 0) → (((1479 - 29) < x2 → (t_Coach_saveTo_28_34_15 E I T Q )) ∧ (¬ ((1479 - 29) < x2) → ((¬ (0 : Int32) < 0 ∧ ¬ x2 < 0 ∧ ¬ (29 : Int32) < 0 ∧ (0 : Int32).toNatClampNeg + (29 : Int32).toNatClampNeg ≤ 29 ∧ x2.toNatClampNeg + (29 : Int32).toNatClampNeg ≤ 1479) ∧ (t_Coach_saveTo_28_34_15 E (m_row I 34 (va_cpy (I 29) (I 34) 0 x2.toNatClampNeg 29)) T Q )))))
theorem s_Coach_saveTo_28_34_0 {E : MEnv} {I : II} {T : TT} {Q : QQ} {x2 : Int32} (hq : t_Coach_saveTo_28_34_0 E I T Q x2) : ev E 100 0 [some (.ref 28), some (.ref 34), some (.int x2)] [] I T Q := by
  unfold t_Coach_saveTo_28_34_0 at hq
  refine ev_seq 1 (ip' := 1) (loc' := [some (.ref 28), some (.ref 34), some (.int x2)]) (st' := [(.int x2)]) (I1 := I) (T1 := T) rfl ?_
  refine ev_br (p := x2 < 0) (a := 15) (b := 2) (st' := []) inferInstance rfl rfl (fun hb => ?_) (fun hb => ?_)
  · have hq := hq.1 hb
    refine ev_fg [false, false, false] (loc' := [none, none, none]) rfl ?_
    exact s_Coach_saveTo_28_34_15 (T := T) hq
  · have hq := hq.2 hb
    refine ev_seq 5 (ip' := 7) (loc' := [some (.ref 28), some (.ref 34), some (.int x2)]) (st' := [(.int (1479 - 29)), (.int x2)]) (I1 := I) (T1 := T) rfl ?_
    refine ev_br (p := (1479 - 29) < x2) (a := 15) (b := 8) (st' := []) inferInstance rfl rfl (fun hb => ?_) (fun hb => ?_)
    · have hq := hq.1 hb
      refine ev_fg [false, false, false] (loc' := [none, none, none]) rfl ?_
      exact s_Coach_saveTo_28_34_15 (T := T) hq
    · have hq := hq.2 hb
      refine ev_seq 6 (ip' := 14) (loc' := [some (.ref 28), some (.ref 34), some (.int x2)]) (st' := [(.int 29), (.int x2), (.ref 34), (.int 0), (.ref 29)]) (I1 := I) (T1 := T) rfl ?_
      obtain ⟨hg, hq⟩ := hq
      refine ev_cpy (c := 29) (d := 34) rfl rfl rfl hg (by decide) ?_
      refine ev_fg [false, false, false] (loc' := [none, none, none]) rfl ?_
      exact s_Coach_saveTo_28_34_15 (T := T) hq
/-- FeltHarness$Coach.setPlace(II)V -/
def t_Coach_setPlace_28_12 (E : MEnv) (I : II) (T : TT) (Q : QQ) : Prop := Q (.inl none) I T
theorem s_Coach_setPlace_28_12 {E : MEnv} {I : II} {T : TT} {Q : QQ} (hq : t_Coach_setPlace_28_12 E I T Q) : ev E 117 12 [none, none, none] [] I T Q := by
  unfold t_Coach_setPlace_28_12 at hq
  exact ev_ret rfl rfl hq
def t_Coach_setPlace_28_0 (E : MEnv) (I : II) (T : TT) (Q : QQ) (x1 : Int32) (x2 : Int32) : Prop := ev E 107 0 [some (.ref 3), some (.int x1)] [] I T (KI (fun v1 I1 T1 => (v1 = 0 → (t_Coach_setPlace_28_12 E I1 T1 Q )) ∧ (¬ (v1 = 0) → ((¬ (0 + x1) < 0 ∧ (0 + x1).toNatClampNeg < 29) ∧ (t_Coach_setPlace_28_12 E (m_up I1 29 (0 + x1).toNatClampNeg x2) T1 Q )))) (fun x I1 T1 => Q (.inr x) I1 T1))
theorem s_Coach_setPlace_28_0 {E : MEnv} {I : II} {T : TT} {Q : QQ} {x1 : Int32} {x2 : Int32} (hq : t_Coach_setPlace_28_0 E I T Q x1 x2) : ev E 117 0 [some (.ref 28), some (.int x1), some (.int x2)] [] I T Q := by
  unfold t_Coach_setPlace_28_0 at hq
  refine ev_seq 3 (ip' := 3) (loc' := [some (.ref 28), some (.int x1), some (.int x2)]) (st' := [(.int x1), (.ref 3)]) (I1 := I) (T1 := T) rfl ?_
  refine ev_callI rfl rfl rfl (fun v1 I1 T1 hq => ?_) (fun x I1 T1 hq => ?_) hq
  · refine ev_br (p := v1 = 0) (a := 12) (b := 5) (st' := []) inferInstance rfl rfl (fun hb => ?_) (fun hb => ?_)
    · have hq := hq.1 hb
      refine ev_fg [false, false, false] (loc' := [none, none, none]) rfl ?_
      exact s_Coach_setPlace_28_12 (T := T1) hq
    · have hq := hq.2 hb
      refine ev_seq 6 (ip' := 11) (loc' := [some (.ref 28), some (.int x1), some (.int x2)]) (st' := [(.int x2), (.int (0 + x1)), (.ref 29)]) (I1 := I1) (T1 := T1) rfl ?_
      obtain ⟨hg, hq⟩ := hq
      refine ev_iast rfl rfl hg ?_
      refine ev_fg [false, false, false] (loc' := [none, none, none]) rfl ?_
      exact s_Coach_setPlace_28_12 (T := T1) hq
  · exact ⟨by decide, hq⟩
/-- FeltHarness$Coach.setPlace(II)V -/
def t_Coach_setPlace_30_12 (E : MEnv) (I : II) (T : TT) (Q : QQ) : Prop := Q (.inl none) I T
theorem s_Coach_setPlace_30_12 {E : MEnv} {I : II} {T : TT} {Q : QQ} (hq : t_Coach_setPlace_30_12 E I T Q) : ev E 117 12 [none, none, none] [] I T Q := by
  unfold t_Coach_setPlace_30_12 at hq
  exact ev_ret rfl rfl hq
def t_Coach_setPlace_30_0 (E : MEnv) (I : II) (T : TT) (Q : QQ) (x1 : Int32) (x2 : Int32) : Prop := ev E 107 0 [some (.ref 3), some (.int x1)] [] I T (KI (fun v1 I1 T1 => (v1 = 0 → (t_Coach_setPlace_30_12 E I1 T1 Q )) ∧ (¬ (v1 = 0) → ((¬ (0 + x1) < 0 ∧ (0 + x1).toNatClampNeg < 29) ∧ (t_Coach_setPlace_30_12 E (m_up I1 31 (0 + x1).toNatClampNeg x2) T1 Q )))) (fun x I1 T1 => Q (.inr x) I1 T1))
theorem s_Coach_setPlace_30_0 {E : MEnv} {I : II} {T : TT} {Q : QQ} {x1 : Int32} {x2 : Int32} (hq : t_Coach_setPlace_30_0 E I T Q x1 x2) : ev E 117 0 [some (.ref 30), some (.int x1), some (.int x2)] [] I T Q := by
  unfold t_Coach_setPlace_30_0 at hq
  refine ev_seq 3 (ip' := 3) (loc' := [some (.ref 30), some (.int x1), some (.int x2)]) (st' := [(.int x1), (.ref 3)]) (I1 := I) (T1 := T) rfl ?_
  refine ev_callI rfl rfl rfl (fun v1 I1 T1 hq => ?_) (fun x I1 T1 hq => ?_) hq
  · refine ev_br (p := v1 = 0) (a := 12) (b := 5) (st' := []) inferInstance rfl rfl (fun hb => ?_) (fun hb => ?_)
    · have hq := hq.1 hb
      refine ev_fg [false, false, false] (loc' := [none, none, none]) rfl ?_
      exact s_Coach_setPlace_30_12 (T := T1) hq
    · have hq := hq.2 hb
      refine ev_seq 6 (ip' := 11) (loc' := [some (.ref 30), some (.int x1), some (.int x2)]) (st' := [(.int x2), (.int (0 + x1)), (.ref 31)]) (I1 := I1) (T1 := T1) rfl ?_
      obtain ⟨hg, hq⟩ := hq
      refine ev_iast rfl rfl hg ?_
      refine ev_fg [false, false, false] (loc' := [none, none, none]) rfl ?_
      exact s_Coach_setPlace_30_12 (T := T1) hq
  · exact ⟨by decide, hq⟩
/-- FeltHarness$Coach.setTight(II)V -/
def t_Coach_setTight_28_14 (E : MEnv) (I : II) (T : TT) (Q : QQ) : Prop := Q (.inl none) I T
theorem s_Coach_setTight_28_14 {E : MEnv} {I : II} {T : TT} {Q : QQ} (hq : t_Coach_setTight_28_14 E I T Q) : ev E 119 14 [none, none, none] [] I T Q := by
  unfold t_Coach_setTight_28_14 at hq
  exact ev_ret rfl rfl hq
def t_Coach_setTight_28_0 (E : MEnv) (I : II) (T : TT) (Q : QQ) (x1 : Int32) (x2 : Int32) : Prop := ev E 107 0 [some (.ref 3), some (.int x1)] [] I T (KI (fun v1 I1 T1 => (v1 = 0 → (t_Coach_setTight_28_14 E I1 T1 Q )) ∧ (¬ (v1 = 0) → ((¬ (8 + x1) < 0 ∧ (8 + x1).toNatClampNeg < 29) ∧ (t_Coach_setTight_28_14 E (m_up I1 29 (8 + x1).toNatClampNeg (if 0 < x2 then x2 else 0)) T1 Q )))) (fun x I1 T1 => Q (.inr x) I1 T1))
theorem s_Coach_setTight_28_0 {E : MEnv} {I : II} {T : TT} {Q : QQ} {x1 : Int32} {x2 : Int32} (hq : t_Coach_setTight_28_0 E I T Q x1 x2) : ev E 119 0 [some (.ref 28), some (.int x1), some (.int x2)] [] I T Q := by
  unfold t_Coach_setTight_28_0 at hq
  refine ev_seq 3 (ip' := 3) (loc' := [some (.ref 28), some (.int x1), some (.int x2)]) (st' := [(.int x1), (.ref 3)]) (I1 := I) (T1 := T) rfl ?_
  refine ev_callI rfl rfl rfl (fun v1 I1 T1 hq => ?_) (fun x I1 T1 hq => ?_) hq
  · refine ev_br (p := v1 = 0) (a := 14) (b := 5) (st' := []) inferInstance rfl rfl (fun hb => ?_) (fun hb => ?_)
    · have hq := hq.1 hb
      refine ev_fg [false, false, false] (loc' := [none, none, none]) rfl ?_
      exact s_Coach_setTight_28_14 (T := T1) hq
    · have hq := hq.2 hb
      refine ev_seq 8 (ip' := 13) (loc' := [some (.ref 28), some (.int x1), some (.int x2)]) (st' := [(.int (if 0 < x2 then x2 else 0)), (.int (8 + x1)), (.ref 29)]) (I1 := I1) (T1 := T1) rfl ?_
      obtain ⟨hg, hq⟩ := hq
      refine ev_iast rfl rfl hg ?_
      refine ev_fg [false, false, false] (loc' := [none, none, none]) rfl ?_
      exact s_Coach_setTight_28_14 (T := T1) hq
  · exact ⟨by decide, hq⟩
/-- FeltHarness$Coach.setTight(II)V -/
def t_Coach_setTight_30_14 (E : MEnv) (I : II) (T : TT) (Q : QQ) : Prop := Q (.inl none) I T
theorem s_Coach_setTight_30_14 {E : MEnv} {I : II} {T : TT} {Q : QQ} (hq : t_Coach_setTight_30_14 E I T Q) : ev E 119 14 [none, none, none] [] I T Q := by
  unfold t_Coach_setTight_30_14 at hq
  exact ev_ret rfl rfl hq
def t_Coach_setTight_30_0 (E : MEnv) (I : II) (T : TT) (Q : QQ) (x1 : Int32) (x2 : Int32) : Prop := ev E 107 0 [some (.ref 3), some (.int x1)] [] I T (KI (fun v1 I1 T1 => (v1 = 0 → (t_Coach_setTight_30_14 E I1 T1 Q )) ∧ (¬ (v1 = 0) → ((¬ (8 + x1) < 0 ∧ (8 + x1).toNatClampNeg < 29) ∧ (t_Coach_setTight_30_14 E (m_up I1 31 (8 + x1).toNatClampNeg (if 0 < x2 then x2 else 0)) T1 Q )))) (fun x I1 T1 => Q (.inr x) I1 T1))
theorem s_Coach_setTight_30_0 {E : MEnv} {I : II} {T : TT} {Q : QQ} {x1 : Int32} {x2 : Int32} (hq : t_Coach_setTight_30_0 E I T Q x1 x2) : ev E 119 0 [some (.ref 30), some (.int x1), some (.int x2)] [] I T Q := by
  unfold t_Coach_setTight_30_0 at hq
  refine ev_seq 3 (ip' := 3) (loc' := [some (.ref 30), some (.int x1), some (.int x2)]) (st' := [(.int x1), (.ref 3)]) (I1 := I) (T1 := T) rfl ?_
  refine ev_callI rfl rfl rfl (fun v1 I1 T1 hq => ?_) (fun x I1 T1 hq => ?_) hq
  · refine ev_br (p := v1 = 0) (a := 14) (b := 5) (st' := []) inferInstance rfl rfl (fun hb => ?_) (fun hb => ?_)
    · have hq := hq.1 hb
      refine ev_fg [false, false, false] (loc' := [none, none, none]) rfl ?_
      exact s_Coach_setTight_30_14 (T := T1) hq
    · have hq := hq.2 hb
      refine ev_seq 8 (ip' := 13) (loc' := [some (.ref 30), some (.int x1), some (.int x2)]) (st' := [(.int (if 0 < x2 then x2 else 0)), (.int (8 + x1)), (.ref 31)]) (I1 := I1) (T1 := T1) rfl ?_
      obtain ⟨hg, hq⟩ := hq
      refine ev_iast rfl rfl hg ?_
      refine ev_fg [false, false, false] (loc' := [none, none, none]) rfl ?_
      exact s_Coach_setTight_30_14 (T := T1) hq
  · exact ⟨by decide, hq⟩
/-- FeltHarness$Coach.setTired(II)V -/
def t_Coach_setTired_28_16 (E : MEnv) (I : II) (T : TT) (Q : QQ) : Prop := Q (.inl none) I T
theorem s_Coach_setTired_28_16 {E : MEnv} {I : II} {T : TT} {Q : QQ} (hq : t_Coach_setTired_28_16 E I T Q) : ev E 139 16 [none, none, none] [] I T Q := by
  unfold t_Coach_setTired_28_16 at hq
  exact ev_ret rfl rfl hq
def t_Coach_setTired_28_0 (E : MEnv) (I : II) (T : TT) (Q : QQ) (x1 : Int32) (x2 : Int32) : Prop := ev E 107 0 [some (.ref 3), some (.int x1)] [] I T (KI (fun v1 I1 T1 => (v1 = 0 → (t_Coach_setTired_28_16 E I1 T1 Q )) ∧ (¬ (v1 = 0) → ((¬ (16 + x1) < 0 ∧ (16 + x1).toNatClampNeg < 29) ∧ (t_Coach_setTired_28_16 E (m_up I1 29 (16 + x1).toNatClampNeg (if 0 < (if x2 < 999 then x2 else 999) then (if x2 < 999 then x2 else 999) else 0)) T1 Q )))) (fun x I1 T1 => Q (.inr x) I1 T1))
theorem s_Coach_setTired_28_0 {E : MEnv} {I : II} {T : TT} {Q : QQ} {x1 : Int32} {x2 : Int32} (hq : t_Coach_setTired_28_0 E I T Q x1 x2) : ev E 139 0 [some (.ref 28), some (.int x1), some (.int x2)] [] I T Q := by
  unfold t_Coach_setTired_28_0 at hq
  refine ev_seq 3 (ip' := 3) (loc' := [some (.ref 28), some (.int x1), some (.int x2)]) (st' := [(.int x1), (.ref 3)]) (I1 := I) (T1 := T) rfl ?_
  refine ev_callI rfl rfl rfl (fun v1 I1 T1 hq => ?_) (fun x I1 T1 hq => ?_) hq
  · refine ev_br (p := v1 = 0) (a := 16) (b := 5) (st' := []) inferInstance rfl rfl (fun hb => ?_) (fun hb => ?_)
    · have hq := hq.1 hb
      refine ev_fg [false, false, false] (loc' := [none, none, none]) rfl ?_
      exact s_Coach_setTired_28_16 (T := T1) hq
    · have hq := hq.2 hb
      refine ev_seq 10 (ip' := 15) (loc' := [some (.ref 28), some (.int x1), some (.int x2)]) (st' := [(.int (if 0 < (if x2 < 999 then x2 else 999) then (if x2 < 999 then x2 else 999) else 0)), (.int (16 + x1)), (.ref 29)]) (I1 := I1) (T1 := T1) rfl ?_
      obtain ⟨hg, hq⟩ := hq
      refine ev_iast rfl rfl hg ?_
      refine ev_fg [false, false, false] (loc' := [none, none, none]) rfl ?_
      exact s_Coach_setTired_28_16 (T := T1) hq
  · exact ⟨by decide, hq⟩
/-- FeltHarness$Coach.setTired(II)V -/
def t_Coach_setTired_30_16 (E : MEnv) (I : II) (T : TT) (Q : QQ) : Prop := Q (.inl none) I T
theorem s_Coach_setTired_30_16 {E : MEnv} {I : II} {T : TT} {Q : QQ} (hq : t_Coach_setTired_30_16 E I T Q) : ev E 139 16 [none, none, none] [] I T Q := by
  unfold t_Coach_setTired_30_16 at hq
  exact ev_ret rfl rfl hq
def t_Coach_setTired_30_0 (E : MEnv) (I : II) (T : TT) (Q : QQ) (x1 : Int32) (x2 : Int32) : Prop := ev E 107 0 [some (.ref 3), some (.int x1)] [] I T (KI (fun v1 I1 T1 => (v1 = 0 → (t_Coach_setTired_30_16 E I1 T1 Q )) ∧ (¬ (v1 = 0) → ((¬ (16 + x1) < 0 ∧ (16 + x1).toNatClampNeg < 29) ∧ (t_Coach_setTired_30_16 E (m_up I1 31 (16 + x1).toNatClampNeg (if 0 < (if x2 < 999 then x2 else 999) then (if x2 < 999 then x2 else 999) else 0)) T1 Q )))) (fun x I1 T1 => Q (.inr x) I1 T1))
theorem s_Coach_setTired_30_0 {E : MEnv} {I : II} {T : TT} {Q : QQ} {x1 : Int32} {x2 : Int32} (hq : t_Coach_setTired_30_0 E I T Q x1 x2) : ev E 139 0 [some (.ref 30), some (.int x1), some (.int x2)] [] I T Q := by
  unfold t_Coach_setTired_30_0 at hq
  refine ev_seq 3 (ip' := 3) (loc' := [some (.ref 30), some (.int x1), some (.int x2)]) (st' := [(.int x1), (.ref 3)]) (I1 := I) (T1 := T) rfl ?_
  refine ev_callI rfl rfl rfl (fun v1 I1 T1 hq => ?_) (fun x I1 T1 hq => ?_) hq
  · refine ev_br (p := v1 = 0) (a := 16) (b := 5) (st' := []) inferInstance rfl rfl (fun hb => ?_) (fun hb => ?_)
    · have hq := hq.1 hb
      refine ev_fg [false, false, false] (loc' := [none, none, none]) rfl ?_
      exact s_Coach_setTired_30_16 (T := T1) hq
    · have hq := hq.2 hb
      refine ev_seq 10 (ip' := 15) (loc' := [some (.ref 30), some (.int x1), some (.int x2)]) (st' := [(.int (if 0 < (if x2 < 999 then x2 else 999) then (if x2 < 999 then x2 else 999) else 0)), (.int (16 + x1)), (.ref 31)]) (I1 := I1) (T1 := T1) rfl ?_
      obtain ⟨hg, hq⟩ := hq
      refine ev_iast rfl rfl hg ?_
      refine ev_fg [false, false, false] (loc' := [none, none, none]) rfl ?_
      exact s_Coach_setTired_30_16 (T := T1) hq
  · exact ⟨by decide, hq⟩
/-- FeltHarness$Coach.spill()V -/
def t_Coach_spill_28_26 (E : MEnv) (I : II) (T : TT) (Q : QQ) (x1 : Int32) : Prop := ev E 140 2 [some (.ref 28), some (.int (x1 + 1))] [] I T Q
theorem s_Coach_spill_28_26 {E : MEnv} {I : II} {T : TT} {Q : QQ} {x1 : Int32} (hq : t_Coach_spill_28_26 E I T Q x1) : ev E 140 26 [some (.ref 28), some (.int x1)] [] I T Q := by
  unfold t_Coach_spill_28_26 at hq
  refine ev_seq 2 (ip' := 2) (loc' := [some (.ref 28), some (.int (x1 + 1))]) (st' := []) (I1 := I) (T1 := T) rfl ?_
  exact hq
def t_Coach_spill_28_2 (E : MEnv) (I : II) (T : TT) (Q : QQ) (x1 : Int32) : Prop := ((I 3 5) ≤ x1 → (Q (.inl none) I T)) ∧ (¬ ((I 3 5) ≤ x1) → (ev E 108 0 [some (.ref 28), some (.int x1)] [] I T (KI (fun v1 I1 T1 => (v1 = 0 → (t_Coach_spill_28_26 E I1 T1 Q x1)) ∧ (¬ (v1 = 0) → (ev E 113 0 [some (.ref 28), some (.int x1)] [] I1 T1 (KI (fun v2 I2 T2 => ev E 119 0 [some (.ref 28), some (.int x1), some (.int (v2 - 3))] [] I2 T2 (KV (fun I3 T3 => ev E 113 0 [some (.ref 28), some (.int x1)] [] I3 T3 (KI (fun v4 I4 T4 => (v4 = 0 → (ev E 118 0 [some (.ref 28), some (.int x1)] [] I4 T4 (KV (fun I5 T5 => t_Coach_spill_28_26 E I5 T5 Q x1) (fun x I1 T1 => Q (.inr x) I1 T1)))) ∧ (¬ (v4 = 0) → (t_Coach_spill_28_26 E I4 T4 Q x1))) (fun x I1 T1 => Q (.inr x) I1 T1))) (fun x I1 T1 => Q (.inr x) I1 T1))) (fun x I1 T1 => Q (.inr x) I1 T1))))) (fun x I1 T1 => Q (.inr x) I1 T1))))
theorem s_Coach_spill_28_2 {E : MEnv} {I : II} {T : TT} {Q : QQ} {x1 : Int32} (hq : t_Coach_spill_28_2 E I T Q x1) : ev E 140 2 [some (.ref 28), some (.int x1)] [] I T Q := by
  unfold t_Coach_spill_28_2 at hq
  refine ev_seq 4 (ip' := 6) (loc' := [some (.ref 28), some (.int x1)]) (st' := [(.int (I 3 5)), (.int x1)]) (I1 := I) (T1 := T) rfl ?_
  refine ev_br (p := (I 3 5) ≤ x1) (a := 28) (b := 7) (st' := []) inferInstance rfl rfl (fun hb => ?_) (fun hb => ?_)
  · have hq := hq.1 hb
    exact ev_ret rfl rfl hq
  · have hq := hq.2 hb
    refine ev_seq 2 (ip' := 9) (loc' := [some (.ref 28), some (.int x1)]) (st' := [(.int x1), (.ref 28)]) (I1 := I) (T1 := T) rfl ?_
    refine ev_callI rfl rfl rfl (fun v1 I1 T1 hq => ?_) (fun x I1 T1 hq => ?_) hq
    · refine ev_br (p := v1 = 0) (a := 26) (b := 11) (st' := []) inferInstance rfl rfl (fun hb => ?_) (fun hb => ?_)
      · have hq := hq.1 hb
        exact s_Coach_spill_28_26 (T := T1) hq
      · have hq := hq.2 hb
        refine ev_seq 4 (ip' := 15) (loc' := [some (.ref 28), some (.int x1)]) (st' := [(.int x1), (.ref 28), (.int x1), (.ref 28)]) (I1 := I1) (T1 := T1) rfl ?_
        refine ev_callI rfl rfl rfl (fun v2 I2 T2 hq => ?_) (fun x I1 T1 hq => ?_) hq
        · refine ev_seq 2 (ip' := 18) (loc' := [some (.ref 28), some (.int x1)]) (st' := [(.int (v2 - 3)), (.int x1), (.ref 28)]) (I1 := I2) (T1 := T2) rfl ?_
          refine ev_callV rfl rfl rfl (fun I3 T3 hq => ?_) (fun x I1 T1 hq => ?_) hq
          · refine ev_seq 2 (ip' := 21) (loc' := [some (.ref 28), some (.int x1)]) (st' := [(.int x1), (.ref 28)]) (I1 := I3) (T1 := T3) rfl ?_
            refine ev_callI rfl rfl rfl (fun v4 I4 T4 hq => ?_) (fun x I1 T1 hq => ?_) hq
            · refine ev_br (p := v4 = 0) (a := 23) (b := 26) (st' := []) inferInstance rfl rfl (fun hb => ?_) (fun hb => ?_)
              · have hq := hq.1 hb
                refine ev_seq 2 (ip' := 25) (loc' := [some (.ref 28), some (.int x1)]) (st' := [(.int x1), (.ref 28)]) (I1 := I4) (T1 := T4) rfl ?_
                refine ev_callV rfl rfl rfl (fun I5 T5 hq => ?_) (fun x I1 T1 hq => ?_) hq
                · exact s_Coach_spill_28_26 (T := T5) hq
                · exact ⟨by decide, hq⟩
              · have hq := hq.2 hb
                exact s_Coach_spill_28_26 (T := T4) hq
            · exact ⟨by decide, hq⟩
          · exact ⟨by decide, hq⟩
        · exact ⟨by decide, hq⟩
    · exact ⟨by decide, hq⟩
def t_Coach_spill_28_0 (E : MEnv) (I : II) (T : TT) (Q : QQ) : Prop := t_Coach_spill_28_2 E I T Q 0
theorem s_Coach_spill_28_0 {E : MEnv} {I : II} {T : TT} {Q : QQ} (hq : t_Coach_spill_28_0 E I T Q) : ev E 140 0 [some (.ref 28), none] [] I T Q := by
  unfold t_Coach_spill_28_0 at hq
  refine ev_seq 2 (ip' := 2) (loc' := [some (.ref 28), some (.int 0)]) (st' := []) (I1 := I) (T1 := T) rfl ?_
  exact s_Coach_spill_28_2 (T := T) hq
/-- FeltHarness$Coach.spill()V -/
def t_Coach_spill_30_26 (E : MEnv) (I : II) (T : TT) (Q : QQ) (x1 : Int32) : Prop := ev E 140 2 [some (.ref 30), some (.int (x1 + 1))] [] I T Q
theorem s_Coach_spill_30_26 {E : MEnv} {I : II} {T : TT} {Q : QQ} {x1 : Int32} (hq : t_Coach_spill_30_26 E I T Q x1) : ev E 140 26 [some (.ref 30), some (.int x1)] [] I T Q := by
  unfold t_Coach_spill_30_26 at hq
  refine ev_seq 2 (ip' := 2) (loc' := [some (.ref 30), some (.int (x1 + 1))]) (st' := []) (I1 := I) (T1 := T) rfl ?_
  exact hq
def t_Coach_spill_30_2 (E : MEnv) (I : II) (T : TT) (Q : QQ) (x1 : Int32) : Prop := ((I 3 5) ≤ x1 → (Q (.inl none) I T)) ∧ (¬ ((I 3 5) ≤ x1) → (ev E 108 0 [some (.ref 30), some (.int x1)] [] I T (KI (fun v1 I1 T1 => (v1 = 0 → (t_Coach_spill_30_26 E I1 T1 Q x1)) ∧ (¬ (v1 = 0) → (ev E 113 0 [some (.ref 30), some (.int x1)] [] I1 T1 (KI (fun v2 I2 T2 => ev E 119 0 [some (.ref 30), some (.int x1), some (.int (v2 - 3))] [] I2 T2 (KV (fun I3 T3 => ev E 113 0 [some (.ref 30), some (.int x1)] [] I3 T3 (KI (fun v4 I4 T4 => (v4 = 0 → (ev E 118 0 [some (.ref 30), some (.int x1)] [] I4 T4 (KV (fun I5 T5 => t_Coach_spill_30_26 E I5 T5 Q x1) (fun x I1 T1 => Q (.inr x) I1 T1)))) ∧ (¬ (v4 = 0) → (t_Coach_spill_30_26 E I4 T4 Q x1))) (fun x I1 T1 => Q (.inr x) I1 T1))) (fun x I1 T1 => Q (.inr x) I1 T1))) (fun x I1 T1 => Q (.inr x) I1 T1))))) (fun x I1 T1 => Q (.inr x) I1 T1))))
theorem s_Coach_spill_30_2 {E : MEnv} {I : II} {T : TT} {Q : QQ} {x1 : Int32} (hq : t_Coach_spill_30_2 E I T Q x1) : ev E 140 2 [some (.ref 30), some (.int x1)] [] I T Q := by
  unfold t_Coach_spill_30_2 at hq
  refine ev_seq 4 (ip' := 6) (loc' := [some (.ref 30), some (.int x1)]) (st' := [(.int (I 3 5)), (.int x1)]) (I1 := I) (T1 := T) rfl ?_
  refine ev_br (p := (I 3 5) ≤ x1) (a := 28) (b := 7) (st' := []) inferInstance rfl rfl (fun hb => ?_) (fun hb => ?_)
  · have hq := hq.1 hb
    exact ev_ret rfl rfl hq
  · have hq := hq.2 hb
    refine ev_seq 2 (ip' := 9) (loc' := [some (.ref 30), some (.int x1)]) (st' := [(.int x1), (.ref 30)]) (I1 := I) (T1 := T) rfl ?_
    refine ev_callI rfl rfl rfl (fun v1 I1 T1 hq => ?_) (fun x I1 T1 hq => ?_) hq
    · refine ev_br (p := v1 = 0) (a := 26) (b := 11) (st' := []) inferInstance rfl rfl (fun hb => ?_) (fun hb => ?_)
      · have hq := hq.1 hb
        exact s_Coach_spill_30_26 (T := T1) hq
      · have hq := hq.2 hb
        refine ev_seq 4 (ip' := 15) (loc' := [some (.ref 30), some (.int x1)]) (st' := [(.int x1), (.ref 30), (.int x1), (.ref 30)]) (I1 := I1) (T1 := T1) rfl ?_
        refine ev_callI rfl rfl rfl (fun v2 I2 T2 hq => ?_) (fun x I1 T1 hq => ?_) hq
        · refine ev_seq 2 (ip' := 18) (loc' := [some (.ref 30), some (.int x1)]) (st' := [(.int (v2 - 3)), (.int x1), (.ref 30)]) (I1 := I2) (T1 := T2) rfl ?_
          refine ev_callV rfl rfl rfl (fun I3 T3 hq => ?_) (fun x I1 T1 hq => ?_) hq
          · refine ev_seq 2 (ip' := 21) (loc' := [some (.ref 30), some (.int x1)]) (st' := [(.int x1), (.ref 30)]) (I1 := I3) (T1 := T3) rfl ?_
            refine ev_callI rfl rfl rfl (fun v4 I4 T4 hq => ?_) (fun x I1 T1 hq => ?_) hq
            · refine ev_br (p := v4 = 0) (a := 23) (b := 26) (st' := []) inferInstance rfl rfl (fun hb => ?_) (fun hb => ?_)
              · have hq := hq.1 hb
                refine ev_seq 2 (ip' := 25) (loc' := [some (.ref 30), some (.int x1)]) (st' := [(.int x1), (.ref 30)]) (I1 := I4) (T1 := T4) rfl ?_
                refine ev_callV rfl rfl rfl (fun I5 T5 hq => ?_) (fun x I1 T1 hq => ?_) hq
                · exact s_Coach_spill_30_26 (T := T5) hq
                · exact ⟨by decide, hq⟩
              · have hq := hq.2 hb
                exact s_Coach_spill_30_26 (T := T4) hq
            · exact ⟨by decide, hq⟩
          · exact ⟨by decide, hq⟩
        · exact ⟨by decide, hq⟩
    · exact ⟨by decide, hq⟩
def t_Coach_spill_30_0 (E : MEnv) (I : II) (T : TT) (Q : QQ) : Prop := t_Coach_spill_30_2 E I T Q 0
theorem s_Coach_spill_30_0 {E : MEnv} {I : II} {T : TT} {Q : QQ} (hq : t_Coach_spill_30_0 E I T Q) : ev E 140 0 [some (.ref 30), none] [] I T Q := by
  unfold t_Coach_spill_30_0 at hq
  refine ev_seq 2 (ip' := 2) (loc' := [some (.ref 30), some (.int 0)]) (st' := []) (I1 := I) (T1 := T) rfl ?_
  exact s_Coach_spill_30_2 (T := T) hq
/-- FeltHarness$Coach.start()V -/
def t_Coach_start_28_19 (E : MEnv) (I : II) (T : TT) (Q : QQ) (x1 : Int32) (y1 : Int32) (y2 : Int32) : Prop := (¬ y1 < 0 ∧ y1.toNatClampNeg < 29) ∧ (ev E 16 2 [some (.ref 28), some (.int (x1 + 1))] [] (m_up I 29 y1.toNatClampNeg y2) T Q)
theorem s_Coach_start_28_19 {E : MEnv} {I : II} {T : TT} {Q : QQ} {x1 : Int32} {y1 : Int32} {y2 : Int32} (hq : t_Coach_start_28_19 E I T Q x1 y1 y2) : ev E 16 19 [some (.ref 28), some (.int x1)] [(.int y2), (.int y1), (.ref 29)] I T Q := by
  unfold t_Coach_start_28_19 at hq
  obtain ⟨hg, hq⟩ := hq
  refine ev_iast rfl rfl hg ?_
  refine ev_seq 2 (ip' := 2) (loc' := [some (.ref 28), some (.int (x1 + 1))]) (st' := []) (I1 := m_up I 29 y1.toNatClampNeg y2) (T1 := T) rfl ?_
  exact hq
def t_Coach_start_28_2 (E : MEnv) (I : II) (T : TT) (Q : QQ) (x1 : Int32) : Prop := (29 ≤ x1 → (Q (.inl none) I T)) ∧ (¬ (29 ≤ x1) → ((8 ≤ x1 → ((16 ≤ x1 → (t_Coach_start_28_19 E I T Q x1 x1 0)) ∧ (¬ (16 ≤ x1) → (t_Coach_start_28_19 E I T Q x1 x1 5)))) ∧ (¬ (8 ≤ x1) → (t_Coach_start_28_19 E I T Q x1 x1 (-1)))))
theorem s_Coach_start_28_2 {E : MEnv} {I : II} {T : TT} {Q : QQ} {x1 : Int32} (hq : t_Coach_start_28_2 E I T Q x1) : ev E 16 2 [some (.ref 28), some (.int x1)] [] I T Q := by
  unfold t_Coach_start_28_2 at hq
  refine ev_seq 2 (ip' := 4) (loc' := [some (.ref 28), some (.int x1)]) (st' := [(.int 29), (.int x1)]) (I1 := I) (T1 := T) rfl ?_
  refine ev_br (p := 29 ≤ x1) (a := 22) (b := 5) (st' := []) inferInstance rfl rfl (fun hb => ?_) (fun hb => ?_)
  · have hq := hq.1 hb
    exact ev_ret rfl rfl hq
  · have hq := hq.2 hb
    refine ev_seq 5 (ip' := 10) (loc' := [some (.ref 28), some (.int x1)]) (st' := [(.int 8), (.int x1), (.int x1), (.ref 29)]) (I1 := I) (T1 := T) rfl ?_
    refine ev_br (p := 8 ≤ x1) (a := 13) (b := 11) (st' := [(.int x1), (.ref 29)]) inferInstance rfl rfl (fun hb => ?_) (fun hb => ?_)
    · have hq := hq.1 hb
      refine ev_seq 2 (ip' := 15) (loc' := [some (.ref 28), some (.int x1)]) (st' := [(.int 16), (.int x1), (.int x1), (.ref 29)]) (I1 := I) (T1 := T) rfl ?_
      refine ev_br (p := 16 ≤ x1) (a := 18) (b := 16) (st' := [(.int x1), (.ref 29)]) inferInstance rfl rfl (fun hb => ?_) (fun hb => ?_)
      · have hq := hq.1 hb
        refine ev_seq 1 (ip' := 19) (loc' := [some (.ref 28), some (.int x1)]) (st' := [(.int 0), (.int x1), (.ref 29)]) (I1 := I) (T1 := T) rfl ?_
        exact s_Coach_start_28_19 (T := T) hq
      · have hq := hq.2 hb
        refine ev_seq 2 (ip' := 19) (loc' := [some (.ref 28), some (.int x1)]) (st' := [(.int 5), (.int x1), (.ref 29)]) (I1 := I) (T1 := T) rfl ?_
        exact s_Coach_start_28_19 (T := T) hq
    · have hq := hq.2 hb
      refine ev_seq 2 (ip' := 19) (loc' := [some (.ref 28), some (.int x1)]) (st' := [(.int (-1)), (.int x1), (.ref 29)]) (I1 := I) (T1 := T) rfl ?_
      exact s_Coach_start_28_19 (T := T) hq
def t_Coach_start_28_0 (E : MEnv) (I : II) (T : TT) (Q : QQ) : Prop := t_Coach_start_28_2 E I T Q 0
theorem s_Coach_start_28_0 {E : MEnv} {I : II} {T : TT} {Q : QQ} (hq : t_Coach_start_28_0 E I T Q) : ev E 16 0 [some (.ref 28), none] [] I T Q := by
  unfold t_Coach_start_28_0 at hq
  refine ev_seq 2 (ip' := 2) (loc' := [some (.ref 28), some (.int 0)]) (st' := []) (I1 := I) (T1 := T) rfl ?_
  exact s_Coach_start_28_2 (T := T) hq
/-- FeltHarness$Coach.strengthNow()I -/
def t_Coach_strengthNow_28_0 (E : MEnv) (I : II) (T : TT) (Q : QQ) : Prop := ev E 121 0 [some (.ref 28), none, none, none, none] [] I T (KV (fun I1 T1 => Q (.inl (some (.int ((I1 28 3) + (I1 28 4))))) I1 T1) (fun x I1 T1 => Q (.inr x) I1 T1))
theorem s_Coach_strengthNow_28_0 {E : MEnv} {I : II} {T : TT} {Q : QQ} (hq : t_Coach_strengthNow_28_0 E I T Q) : ev E 182 0 [some (.ref 28)] [] I T Q := by
  unfold t_Coach_strengthNow_28_0 at hq
  refine ev_seq 1 (ip' := 1) (loc' := [some (.ref 28)]) (st' := [(.ref 28)]) (I1 := I) (T1 := T) rfl ?_
  refine ev_callV rfl rfl rfl (fun I1 T1 hq => ?_) (fun x I1 T1 hq => ?_) hq
  · refine ev_seq 5 (ip' := 7) (loc' := [some (.ref 28)]) (st' := [(.int ((I1 28 3) + (I1 28 4)))]) (I1 := I1) (T1 := T1) rfl ?_
    exact ev_ret rfl rfl hq
  · exact ⟨by decide, hq⟩
/-- FeltHarness$Coach.takeOut(I)V -/
def t_Coach_takeOut_28_0 (E : MEnv) (I : II) (T : TT) (Q : QQ) (x1 : Int32) : Prop := ev E 117 0 [some (.ref 28), some (.int x1), some (.int (-1))] [] I T (KV (fun I1 T1 => Q (.inl none) I1 T1) (fun x I1 T1 => Q (.inr x) I1 T1))
theorem s_Coach_takeOut_28_0 {E : MEnv} {I : II} {T : TT} {Q : QQ} {x1 : Int32} (hq : t_Coach_takeOut_28_0 E I T Q x1) : ev E 118 0 [some (.ref 28), some (.int x1)] [] I T Q := by
  unfold t_Coach_takeOut_28_0 at hq
  refine ev_seq 3 (ip' := 3) (loc' := [some (.ref 28), some (.int x1)]) (st' := [(.int (-1)), (.int x1), (.ref 28)]) (I1 := I) (T1 := T) rfl ?_
  refine ev_callV rfl rfl rfl (fun I1 T1 hq => ?_) (fun x I1 T1 hq => ?_) hq
  · exact ev_ret rfl rfl hq
  · exact ⟨by decide, hq⟩
/-- FeltHarness$Coach.takeOut(I)V -/
def t_Coach_takeOut_30_0 (E : MEnv) (I : II) (T : TT) (Q : QQ) (x1 : Int32) : Prop := ev E 117 0 [some (.ref 30), some (.int x1), some (.int (-1))] [] I T (KV (fun I1 T1 => Q (.inl none) I1 T1) (fun x I1 T1 => Q (.inr x) I1 T1))
theorem s_Coach_takeOut_30_0 {E : MEnv} {I : II} {T : TT} {Q : QQ} {x1 : Int32} (hq : t_Coach_takeOut_30_0 E I T Q x1) : ev E 118 0 [some (.ref 30), some (.int x1)] [] I T Q := by
  unfold t_Coach_takeOut_30_0 at hq
  refine ev_seq 3 (ip' := 3) (loc' := [some (.ref 30), some (.int x1)]) (st' := [(.int (-1)), (.int x1), (.ref 30)]) (I1 := I) (T1 := T) rfl ?_
  refine ev_callV rfl rfl rfl (fun I1 T1 hq => ?_) (fun x I1 T1 hq => ?_) hq
  · exact ev_ret rfl rfl hq
  · exact ⟨by decide, hq⟩
/-- FeltHarness$Coach.teamBits()I -/
def t_Coach_teamBits_28_28 (E : MEnv) (I : II) (T : TT) (Q : QQ) (x1 : Int32) : Prop := Q (.inl (some (.int x1))) I T
theorem s_Coach_teamBits_28_28 {E : MEnv} {I : II} {T : TT} {Q : QQ} {x1 : Int32} (hq : t_Coach_teamBits_28_28 E I T Q x1) : ev E 112 28 [none, some (.int x1), none] [] I T Q := by
  unfold t_Coach_teamBits_28_28 at hq
  refine ev_seq 1 (ip' := 29) (loc' := [none, some (.int x1), none]) (st' := [(.int x1)]) (I1 := I) (T1 := T) rfl ?_
  exact ev_ret rfl rfl hq
def t_Coach_teamBits_28_26 (E : MEnv) (I : II) (T : TT) (Q : QQ) (x1 : Int32) (x2 : Int32) : Prop := ev E 112 4 [some (.ref 28), some (.int x1), some (.int (x2 + 1))] [] I T Q
theorem s_Coach_teamBits_28_26 {E : MEnv} {I : II} {T : TT} {Q : QQ} {x1 : Int32} {x2 : Int32} (hq : t_Coach_teamBits_28_26 E I T Q x1 x2) : ev E 112 26 [some (.ref 28), some (.int x1), some (.int x2)] [] I T Q := by
  unfold t_Coach_teamBits_28_26 at hq
  refine ev_seq 2 (ip' := 4) (loc' := [some (.ref 28), some (.int x1), some (.int (x2 + 1))]) (st' := []) (I1 := I) (T1 := T) rfl ?_
  exact hq
def t_Coach_teamBits_28_4 (E : MEnv) (I : II) (T : TT) (Q : QQ) (x1 : Int32) (x2 : Int32) : Prop := ((I 3 5) ≤ x2 → (t_Coach_teamBits_28_28 E I T Q x1)) ∧ (¬ ((I 3 5) ≤ x2) → ((8 ≤ x2 → (t_Coach_teamBits_28_28 E I T Q x1)) ∧ (¬ (8 ≤ x2) → ((¬ (0 + x2) < 0 ∧ (0 + x2).toNatClampNeg < 29) ∧ (((I 29 (0 + x2).toNatClampNeg) = (-1) → (t_Coach_teamBits_28_26 E I T Q x1 x2)) ∧ (¬ ((I 29 (0 + x2).toNatClampNeg) = (-1)) → (t_Coach_teamBits_28_26 E I T Q (x1 ||| ((1 : Int32) <<< (x2 &&& 31))) x2)))))))
theorem s_Coach_teamBits_28_4 {E : MEnv} {I : II} {T : TT} {Q : QQ} {x1 : Int32} {x2 : Int32} (hq : t_Coach_teamBits_28_4 E I T Q x1 x2) : ev E 112 4 [some (.ref 28), some (.int x1), some (.int x2)] [] I T Q := by
  unfold t_Coach_teamBits_28_4 at hq
  refine ev_seq 4 (ip' := 8) (loc' := [some (.ref 28), some (.int x1), some (.int x2)]) (st' := [(.int (I 3 5)), (.int x2)]) (I1 := I) (T1 := T) rfl ?_
  refine ev_br (p := (I 3 5) ≤ x2) (a := 28) (b := 9) (st' := []) inferInstance rfl rfl (fun hb => ?_) (fun hb => ?_)
  · have hq := hq.1 hb
    refine ev_fg [false, true, false] (loc' := [none, some (.int x1), none]) rfl ?_
    exact s_Coach_teamBits_28_28 (T := T) hq
  · have hq := hq.2 hb
    refine ev_seq 2 (ip' := 11) (loc' := [some (.ref 28), some (.int x1), some (.int x2)]) (st' := [(.int 8), (.int x2)]) (I1 := I) (T1 := T) rfl ?_
    refine ev_br (p := 8 ≤ x2) (a := 28) (b := 12) (st' := []) inferInstance rfl rfl (fun hb => ?_) (fun hb => ?_)
    · have hq := hq.1 hb
      refine ev_fg [false, true, false] (loc' := [none, some (.int x1), none]) rfl ?_
      exact s_Coach_teamBits_28_28 (T := T) hq
    · have hq := hq.2 hb
      refine ev_seq 5 (ip' := 17) (loc' := [some (.ref 28), some (.int x1), some (.int x2)]) (st' := [(.int (0 + x2)), (.ref 29)]) (I1 := I) (T1 := T) rfl ?_
      obtain ⟨hg, hq⟩ := hq
      refine ev_iald rfl rfl hg ?_
      refine ev_seq 1 (ip' := 19) (loc' := [some (.ref 28), some (.int x1), some (.int x2)]) (st' := [(.int (-1)), (.int (I 29 (0 + x2).toNatClampNeg))]) (I1 := I) (T1 := T) rfl ?_
      refine ev_br (p := (I 29 (0 + x2).toNatClampNeg) = (-1)) (a := 26) (b := 20) (st' := []) inferInstance rfl rfl (fun hb => ?_) (fun hb => ?_)
      · have hq := hq.1 hb
        exact s_Coach_teamBits_28_26 (T := T) hq
      · have hq := hq.2 hb
        refine ev_seq 6 (ip' := 26) (loc' := [some (.ref 28), some (.int (x1 ||| ((1 : Int32) <<< (x2 &&& 31)))), some (.int x2)]) (st' := []) (I1 := I) (T1 := T) rfl ?_
        exact s_Coach_teamBits_28_26 (T := T) hq
def t_Coach_teamBits_28_0 (E : MEnv) (I : II) (T : TT) (Q : QQ) : Prop := t_Coach_teamBits_28_4 E I T Q 0 0
theorem s_Coach_teamBits_28_0 {E : MEnv} {I : II} {T : TT} {Q : QQ} (hq : t_Coach_teamBits_28_0 E I T Q) : ev E 112 0 [some (.ref 28), none, none] [] I T Q := by
  unfold t_Coach_teamBits_28_0 at hq
  refine ev_seq 4 (ip' := 4) (loc' := [some (.ref 28), some (.int 0), some (.int 0)]) (st' := []) (I1 := I) (T1 := T) rfl ?_
  exact s_Coach_teamBits_28_4 (T := T) hq
/-- FeltHarness$Coach.teamBits()I -/
def t_Coach_teamBits_30_28 (E : MEnv) (I : II) (T : TT) (Q : QQ) (x1 : Int32) : Prop := Q (.inl (some (.int x1))) I T
theorem s_Coach_teamBits_30_28 {E : MEnv} {I : II} {T : TT} {Q : QQ} {x1 : Int32} (hq : t_Coach_teamBits_30_28 E I T Q x1) : ev E 112 28 [none, some (.int x1), none] [] I T Q := by
  unfold t_Coach_teamBits_30_28 at hq
  refine ev_seq 1 (ip' := 29) (loc' := [none, some (.int x1), none]) (st' := [(.int x1)]) (I1 := I) (T1 := T) rfl ?_
  exact ev_ret rfl rfl hq
def t_Coach_teamBits_30_26 (E : MEnv) (I : II) (T : TT) (Q : QQ) (x1 : Int32) (x2 : Int32) : Prop := ev E 112 4 [some (.ref 30), some (.int x1), some (.int (x2 + 1))] [] I T Q
theorem s_Coach_teamBits_30_26 {E : MEnv} {I : II} {T : TT} {Q : QQ} {x1 : Int32} {x2 : Int32} (hq : t_Coach_teamBits_30_26 E I T Q x1 x2) : ev E 112 26 [some (.ref 30), some (.int x1), some (.int x2)] [] I T Q := by
  unfold t_Coach_teamBits_30_26 at hq
  refine ev_seq 2 (ip' := 4) (loc' := [some (.ref 30), some (.int x1), some (.int (x2 + 1))]) (st' := []) (I1 := I) (T1 := T) rfl ?_
  exact hq
def t_Coach_teamBits_30_4 (E : MEnv) (I : II) (T : TT) (Q : QQ) (x1 : Int32) (x2 : Int32) : Prop := ((I 3 5) ≤ x2 → (t_Coach_teamBits_30_28 E I T Q x1)) ∧ (¬ ((I 3 5) ≤ x2) → ((8 ≤ x2 → (t_Coach_teamBits_30_28 E I T Q x1)) ∧ (¬ (8 ≤ x2) → ((¬ (0 + x2) < 0 ∧ (0 + x2).toNatClampNeg < 29) ∧ (((I 31 (0 + x2).toNatClampNeg) = (-1) → (t_Coach_teamBits_30_26 E I T Q x1 x2)) ∧ (¬ ((I 31 (0 + x2).toNatClampNeg) = (-1)) → (t_Coach_teamBits_30_26 E I T Q (x1 ||| ((1 : Int32) <<< (x2 &&& 31))) x2)))))))
theorem s_Coach_teamBits_30_4 {E : MEnv} {I : II} {T : TT} {Q : QQ} {x1 : Int32} {x2 : Int32} (hq : t_Coach_teamBits_30_4 E I T Q x1 x2) : ev E 112 4 [some (.ref 30), some (.int x1), some (.int x2)] [] I T Q := by
  unfold t_Coach_teamBits_30_4 at hq
  refine ev_seq 4 (ip' := 8) (loc' := [some (.ref 30), some (.int x1), some (.int x2)]) (st' := [(.int (I 3 5)), (.int x2)]) (I1 := I) (T1 := T) rfl ?_
  refine ev_br (p := (I 3 5) ≤ x2) (a := 28) (b := 9) (st' := []) inferInstance rfl rfl (fun hb => ?_) (fun hb => ?_)
  · have hq := hq.1 hb
    refine ev_fg [false, true, false] (loc' := [none, some (.int x1), none]) rfl ?_
    exact s_Coach_teamBits_30_28 (T := T) hq
  · have hq := hq.2 hb
    refine ev_seq 2 (ip' := 11) (loc' := [some (.ref 30), some (.int x1), some (.int x2)]) (st' := [(.int 8), (.int x2)]) (I1 := I) (T1 := T) rfl ?_
    refine ev_br (p := 8 ≤ x2) (a := 28) (b := 12) (st' := []) inferInstance rfl rfl (fun hb => ?_) (fun hb => ?_)
    · have hq := hq.1 hb
      refine ev_fg [false, true, false] (loc' := [none, some (.int x1), none]) rfl ?_
      exact s_Coach_teamBits_30_28 (T := T) hq
    · have hq := hq.2 hb
      refine ev_seq 5 (ip' := 17) (loc' := [some (.ref 30), some (.int x1), some (.int x2)]) (st' := [(.int (0 + x2)), (.ref 31)]) (I1 := I) (T1 := T) rfl ?_
      obtain ⟨hg, hq⟩ := hq
      refine ev_iald rfl rfl hg ?_
      refine ev_seq 1 (ip' := 19) (loc' := [some (.ref 30), some (.int x1), some (.int x2)]) (st' := [(.int (-1)), (.int (I 31 (0 + x2).toNatClampNeg))]) (I1 := I) (T1 := T) rfl ?_
      refine ev_br (p := (I 31 (0 + x2).toNatClampNeg) = (-1)) (a := 26) (b := 20) (st' := []) inferInstance rfl rfl (fun hb => ?_) (fun hb => ?_)
      · have hq := hq.1 hb
        exact s_Coach_teamBits_30_26 (T := T) hq
      · have hq := hq.2 hb
        refine ev_seq 6 (ip' := 26) (loc' := [some (.ref 30), some (.int (x1 ||| ((1 : Int32) <<< (x2 &&& 31)))), some (.int x2)]) (st' := []) (I1 := I) (T1 := T) rfl ?_
        exact s_Coach_teamBits_30_26 (T := T) hq
def t_Coach_teamBits_30_0 (E : MEnv) (I : II) (T : TT) (Q : QQ) : Prop := t_Coach_teamBits_30_4 E I T Q 0 0
theorem s_Coach_teamBits_30_0 {E : MEnv} {I : II} {T : TT} {Q : QQ} (hq : t_Coach_teamBits_30_0 E I T Q) : ev E 112 0 [some (.ref 30), none, none] [] I T Q := by
  unfold t_Coach_teamBits_30_0 at hq
  refine ev_seq 4 (ip' := 4) (loc' := [some (.ref 30), some (.int 0), some (.int 0)]) (st' := []) (I1 := I) (T1 := T) rfl ?_
  exact s_Coach_teamBits_30_4 (T := T) hq
/-- FeltHarness$Coach.teamSize()I -/
def t_Coach_teamSize_28_0 (E : MEnv) (I : II) (T : TT) (Q : QQ) : Prop := ev E 112 0 [some (.ref 28), none, none] [] I T (KI (fun v1 I1 T1 => ev E 123 0 [some (.int v1)] [] I1 T1 (KI (fun v2 I2 T2 => Q (.inl (some (.int v2))) I2 T2) (fun _ _ _ => False))) (fun x I1 T1 => Q (.inr x) I1 T1))
theorem s_Coach_teamSize_28_0 {E : MEnv} {I : II} {T : TT} {Q : QQ} (hq : t_Coach_teamSize_28_0 E I T Q) : ev E 122 0 [some (.ref 28)] [] I T Q := by
  unfold t_Coach_teamSize_28_0 at hq
  refine ev_seq 1 (ip' := 1) (loc' := [some (.ref 28)]) (st' := [(.ref 28)]) (I1 := I) (T1 := T) rfl ?_
  refine ev_callI rfl rfl rfl (fun v1 I1 T1 hq => ?_) (fun x I1 T1 hq => ?_) hq
  · refine ev_callI rfl rfl rfl (fun v2 I2 T2 hq => ?_) (fun x I1 T1 hq => ?_) hq
    · exact ev_ret rfl rfl hq
    · exact hq.elim
  · exact ⟨by decide, hq⟩
/-- FeltHarness$Coach.teamSize()I -/
def t_Coach_teamSize_30_0 (E : MEnv) (I : II) (T : TT) (Q : QQ) : Prop := ev E 112 0 [some (.ref 30), none, none] [] I T (KI (fun v1 I1 T1 => ev E 123 0 [some (.int v1)] [] I1 T1 (KI (fun v2 I2 T2 => Q (.inl (some (.int v2))) I2 T2) (fun _ _ _ => False))) (fun x I1 T1 => Q (.inr x) I1 T1))
theorem s_Coach_teamSize_30_0 {E : MEnv} {I : II} {T : TT} {Q : QQ} (hq : t_Coach_teamSize_30_0 E I T Q) : ev E 122 0 [some (.ref 30)] [] I T Q := by
  unfold t_Coach_teamSize_30_0 at hq
  refine ev_seq 1 (ip' := 1) (loc' := [some (.ref 30)]) (st' := [(.ref 30)]) (I1 := I) (T1 := T) rfl ?_
  refine ev_callI rfl rfl rfl (fun v1 I1 T1 hq => ?_) (fun x I1 T1 hq => ?_) hq
  · refine ev_callI rfl rfl rfl (fun v2 I2 T2 hq => ?_) (fun x I1 T1 hq => ?_) hq
    · exact ev_ret rfl rfl hq
    · exact hq.elim
  · exact ⟨by decide, hq⟩
/-- FeltHarness$Coach.tightOf(I)I -/
def t_Coach_tightOf_28_13 (E : MEnv) (I : II) (T : TT) (Q : QQ) (y0 : Int32) : Prop := Q (.inl (some (.int y0))) I T
theorem s_Coach_tightOf_28_13 {E : MEnv} {I : II} {T : TT} {Q : QQ} {y0 : Int32} (hq : t_Coach_tightOf_28_13 E I T Q y0) : ev E 113 13 [none, none] [(.int y0)] I T Q := by
  unfold t_Coach_tightOf_28_13 at hq
  exact ev_ret rfl rfl hq
def t_Coach_tightOf_28_0 (E : MEnv) (I : II) (T : TT) (Q : QQ) (x1 : Int32) : Prop := ev E 107 0 [some (.ref 3), some (.int x1)] [] I T (KI (fun v1 I1 T1 => (v1 = 0 → (t_Coach_tightOf_28_13 E I1 T1 Q 0)) ∧ (¬ (v1 = 0) → ((¬ (8 + x1) < 0 ∧ (8 + x1).toNatClampNeg < 29) ∧ (t_Coach_tightOf_28_13 E I1 T1 Q (I1 29 (8 + x1).toNatClampNeg))))) (fun x I1 T1 => Q (.inr x) I1 T1))
theorem s_Coach_tightOf_28_0 {E : MEnv} {I : II} {T : TT} {Q : QQ} {x1 : Int32} (hq : t_Coach_tightOf_28_0 E I T Q x1) : ev E 113 0 [some (.ref 28), some (.int x1)] [] I T Q := by
  unfold t_Coach_tightOf_28_0 at hq
  refine ev_seq 3 (ip' := 3) (loc' := [some (.ref 28), some (.int x1)]) (st' := [(.int x1), (.ref 3)]) (I1 := I) (T1 := T) rfl ?_
  refine ev_callI rfl rfl rfl (fun v1 I1 T1 hq => ?_) (fun x I1 T1 hq => ?_) hq
  · refine ev_br (p := v1 = 0) (a := 12) (b := 5) (st' := []) inferInstance rfl rfl (fun hb => ?_) (fun hb => ?_)
    · have hq := hq.1 hb
      refine ev_seq 1 (ip' := 13) (loc' := [some (.ref 28), some (.int x1)]) (st' := [(.int 0)]) (I1 := I1) (T1 := T1) rfl ?_
      refine ev_fg [false, false] (loc' := [none, none]) rfl ?_
      exact s_Coach_tightOf_28_13 (T := T1) hq
    · have hq := hq.2 hb
      refine ev_seq 5 (ip' := 10) (loc' := [some (.ref 28), some (.int x1)]) (st' := [(.int (8 + x1)), (.ref 29)]) (I1 := I1) (T1 := T1) rfl ?_
      obtain ⟨hg, hq⟩ := hq
      refine ev_iald rfl rfl hg ?_
      refine ev_seq 1 (ip' := 13) (loc' := [some (.ref 28), some (.int x1)]) (st' := [(.int (I1 29 (8 + x1).toNatClampNeg))]) (I1 := I1) (T1 := T1) rfl ?_
      refine ev_fg [false, false] (loc' := [none, none]) rfl ?_
      exact s_Coach_tightOf_28_13 (T := T1) hq
  · exact ⟨by decide, hq⟩
/-- FeltHarness$Coach.tightOf(I)I -/
def t_Coach_tightOf_30_13 (E : MEnv) (I : II) (T : TT) (Q : QQ) (y0 : Int32) : Prop := Q (.inl (some (.int y0))) I T
theorem s_Coach_tightOf_30_13 {E : MEnv} {I : II} {T : TT} {Q : QQ} {y0 : Int32} (hq : t_Coach_tightOf_30_13 E I T Q y0) : ev E 113 13 [none, none] [(.int y0)] I T Q := by
  unfold t_Coach_tightOf_30_13 at hq
  exact ev_ret rfl rfl hq
def t_Coach_tightOf_30_0 (E : MEnv) (I : II) (T : TT) (Q : QQ) (x1 : Int32) : Prop := ev E 107 0 [some (.ref 3), some (.int x1)] [] I T (KI (fun v1 I1 T1 => (v1 = 0 → (t_Coach_tightOf_30_13 E I1 T1 Q 0)) ∧ (¬ (v1 = 0) → ((¬ (8 + x1) < 0 ∧ (8 + x1).toNatClampNeg < 29) ∧ (t_Coach_tightOf_30_13 E I1 T1 Q (I1 31 (8 + x1).toNatClampNeg))))) (fun x I1 T1 => Q (.inr x) I1 T1))
theorem s_Coach_tightOf_30_0 {E : MEnv} {I : II} {T : TT} {Q : QQ} {x1 : Int32} (hq : t_Coach_tightOf_30_0 E I T Q x1) : ev E 113 0 [some (.ref 30), some (.int x1)] [] I T Q := by
  unfold t_Coach_tightOf_30_0 at hq
  refine ev_seq 3 (ip' := 3) (loc' := [some (.ref 30), some (.int x1)]) (st' := [(.int x1), (.ref 3)]) (I1 := I) (T1 := T) rfl ?_
  refine ev_callI rfl rfl rfl (fun v1 I1 T1 hq => ?_) (fun x I1 T1 hq => ?_) hq
  · refine ev_br (p := v1 = 0) (a := 12) (b := 5) (st' := []) inferInstance rfl rfl (fun hb => ?_) (fun hb => ?_)
    · have hq := hq.1 hb
      refine ev_seq 1 (ip' := 13) (loc' := [some (.ref 30), some (.int x1)]) (st' := [(.int 0)]) (I1 := I1) (T1 := T1) rfl ?_
      refine ev_fg [false, false] (loc' := [none, none]) rfl ?_
      exact s_Coach_tightOf_30_13 (T := T1) hq
    · have hq := hq.2 hb
      refine ev_seq 5 (ip' := 10) (loc' := [some (.ref 30), some (.int x1)]) (st' := [(.int (8 + x1)), (.ref 31)]) (I1 := I1) (T1 := T1) rfl ?_
      obtain ⟨hg, hq⟩ := hq
      refine ev_iald rfl rfl hg ?_
      refine ev_seq 1 (ip' := 13) (loc' := [some (.ref 30), some (.int x1)]) (st' := [(.int (I1 31 (8 + x1).toNatClampNeg))]) (I1 := I1) (T1 := T1) rfl ?_
      refine ev_fg [false, false] (loc' := [none, none]) rfl ?_
      exact s_Coach_tightOf_30_13 (T := T1) hq
  · exact ⟨by decide, hq⟩
/-- FeltHarness$Coach.tiltNow()I -/
def t_Coach_tiltNow_28_0 (E : MEnv) (I : II) (T : TT) (Q : QQ) : Prop := ev E 121 0 [some (.ref 28), none, none, none, none] [] I T (KV (fun I1 T1 => Q (.inl (some (.int (if 0 ≤ ((I1 28 3) - (I1 28 4)) then ((I1 28 3) - (I1 28 4)) else 0 - ((I1 28 3) - (I1 28 4)))))) I1 T1) (fun x I1 T1 => Q (.inr x) I1 T1))
theorem s_Coach_tiltNow_28_0 {E : MEnv} {I : II} {T : TT} {Q : QQ} (hq : t_Coach_tiltNow_28_0 E I T Q) : ev E 183 0 [some (.ref 28)] [] I T Q := by
  unfold t_Coach_tiltNow_28_0 at hq
  refine ev_seq 1 (ip' := 1) (loc' := [some (.ref 28)]) (st' := [(.ref 28)]) (I1 := I) (T1 := T) rfl ?_
  refine ev_callV rfl rfl rfl (fun I1 T1 hq => ?_) (fun x I1 T1 hq => ?_) hq
  · refine ev_seq 6 (ip' := 8) (loc' := [some (.ref 28)]) (st' := [(.int (if 0 ≤ ((I1 28 3) - (I1 28 4)) then ((I1 28 3) - (I1 28 4)) else 0 - ((I1 28 3) - (I1 28 4))))]) (I1 := I1) (T1 := T1) rfl ?_
    exact ev_ret rfl rfl hq
  · exact ⟨by decide, hq⟩
