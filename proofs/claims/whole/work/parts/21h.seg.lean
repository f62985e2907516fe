/-- jdk/internal/util/Preconditions.checkIndex(IILjava/util/function/BiFunction;)I -/
def t_Prec_checkIndex_5 (E : MEnv) (I : II) (T : TT) (Q : QQ) (x0 : Int32) (x1 : Int32) : Prop := False
theorem s_Prec_checkIndex_5 {E : MEnv} {I : II} {T : TT} {Q : QQ} {x0 : Int32} {x1 : Int32} (hq : t_Prec_checkIndex_5 E I T Q x0 x1) : ev E 43 5 [some (.int x0), some (.int x1), some (.retAddr 0)] [] I T Q := by
  unfold t_Prec_checkIndex_5 at hq
  exact hq.elim
def t_Prec_checkIndex_0 (E : MEnv) (I : II) (T : TT) (Q : QQ) (x0 : Int32) (x1 : Int32) : Prop := (x0 < 0 → (t_Prec_checkIndex_5 E I T Q x0 x1)) ∧ (¬ (x0 < 0) → ((x0 < x1 → (Q (.inl (some (.int x0))) I T)) ∧ (¬ (x0 < x1) → (t_Prec_checkIndex_5 E I T Q x0 x1))))
theorem s_Prec_checkIndex_0 {E : MEnv} {I : II} {T : TT} {Q : QQ} {x0 : Int32} {x1 : Int32} (hq : t_Prec_checkIndex_0 E I T Q x0 x1) : ev E 43 0 [some (.int x0), some (.int x1), some (.retAddr 0)] [] I T Q := by
  unfold t_Prec_checkIndex_0 at hq
  refine ev_seq 1 (ip' := 1) (loc' := [some (.int x0), some (.int x1), some (.retAddr 0)]) (st' := [(.int x0)]) (I1 := I) (T1 := T) rfl ?_
  refine ev_br (p := x0 < 0) (a := 5) (b := 2) (st' := []) inferInstance rfl rfl (fun hb => ?_) (fun hb => ?_)
  · have hq := hq.1 hb
    exact s_Prec_checkIndex_5 (T := T) hq
  · have hq := hq.2 hb
    refine ev_seq 2 (ip' := 4) (loc' := [some (.int x0), some (.int x1), some (.retAddr 0)]) (st' := [(.int x1), (.int x0)]) (I1 := I) (T1 := T) rfl ?_
    refine ev_br (p := x0 < x1) (a := 10) (b := 5) (st' := []) inferInstance rfl rfl (fun hb => ?_) (fun hb => ?_)
    · have hq := hq.1 hb
      refine ev_seq 1 (ip' := 11) (loc' := [some (.int x0), some (.int x1), some (.retAddr 0)]) (st' := [(.int x0)]) (I1 := I) (T1 := T) rfl ?_
      exact ev_ret rfl rfl hq
    · have hq := hq.2 hb
      exact s_Prec_checkIndex_5 (T := T) hq
/-- FeltHarness$Search.compare(LFeltHarness$House;II)V -/
def t_Search_compare_3_7 (E : MEnv) (I : II) (T : TT) (Q : QQ) : Prop := Q (.inl none) I T
theorem s_Search_compare_3_7 {E : MEnv} {I : II} {T : TT} {Q : QQ} (hq : t_Search_compare_3_7 E I T Q) : ev E 222 7 [none, none, none, none, none, none, none, none] [] I T Q := by
  unfold t_Search_compare_3_7 at hq
  exact ev_ret rfl rfl hq
def t_Search_compare_3_72 (E : MEnv) (I : II) (T : TT) (Q : QQ) : Prop := Q (.inl none) I T
theorem s_Search_compare_3_72 {E : MEnv} {I : II} {T : TT} {Q : QQ} (hq : t_Search_compare_3_72 E I T Q) : ev E 222 72 [none, none, none, none, none, none, none, none] [] I T Q := by
  unfold t_Search_compare_3_72 at hq
  exact ev_ret rfl rfl hq
def t_Search_compare_3_106 (E : MEnv) (I : II) (T : TT) (Q : QQ) : Prop := Q (.inl none) I T
theorem s_Search_compare_3_106 {E : MEnv} {I : II} {T : TT} {Q : QQ} (hq : t_Search_compare_3_106 E I T Q) : ev E 222 106 [none, none, none, none, none, none, none, none] [] I T Q := by
  unfold t_Search_compare_3_106 at hq
  exact ev_ret rfl rfl hq
def t_Search_compare_3_73 (E : MEnv) (I : II) (T : TT) (Q : QQ) (x2 : Int32) (x4 : Int32) (x6 : Int32) : Prop := ev E 134 0 [some (.ref 3), some (.int x2)] [] I T (KI (fun v1 I1 T1 => (x4 < v1 → (t_Search_compare_3_106 E I1 T1 Q )) ∧ (¬ (x4 < v1) → (ev E 137 0 [some (.ref 3), some (.int x2)] [] I1 T1 (KI (fun v2 I2 T2 => ((I2 3 7) < (x6 + v2) → (t_Search_compare_3_106 E I2 T2 Q )) ∧ (¬ ((I2 3 7) < (x6 + v2)) → ((¬ x2 < 0 ∧ x2.toNatClampNeg < 6) ∧ ((¬ x2 < 0 ∧ x2.toNatClampNeg < 6) ∧ ((¬ (0 : Int32) < 0 ∧ ¬ (x2 * 4) < 0 ∧ ¬ (4 : Int32) < 0 ∧ (0 : Int32).toNatClampNeg + (4 : Int32).toNatClampNeg ≤ 4 ∧ (x2 * 4).toNatClampNeg + (4 : Int32).toNatClampNeg ≤ 24) ∧ (t_Search_compare_3_106 E (m_row (m_up (m_up I2 40 x2.toNatClampNeg x4) 41 x2.toNatClampNeg x6) 39 (va_cpy ((m_up (m_up I2 40 x2.toNatClampNeg x4) 41 x2.toNatClampNeg x6) 38) ((m_up (m_up I2 40 x2.toNatClampNeg x4) 41 x2.toNatClampNeg x6) 39) 0 (x2 * 4).toNatClampNeg 4)) T2 Q )))))) (fun x I1 T1 => Q (.inr x) I1 T1))))) (fun x I1 T1 => Q (.inr x) I1 T1))
theorem s_Search_compare_3_73 {E : MEnv} {I : II} {T : TT} {Q : QQ} {x2 : Int32} {x4 : Int32} {x6 : Int32} (hq : t_Search_compare_3_73 E I T Q x2 x4 x6) : ev E 222 73 [some (.ref 36), some (.ref 3), some (.int x2), none, some (.int x4), none, some (.int x6), none] [] I T Q := by
  unfold t_Search_compare_3_73 at hq
  refine ev_seq 3 (ip' := 76) (loc' := [some (.ref 36), some (.ref 3), some (.int x2), none, some (.int x4), none, some (.int x6), none]) (st' := [(.int x2), (.ref 3), (.int x4)]) (I1 := I) (T1 := T) rfl ?_
  refine ev_callI rfl rfl rfl (fun v1 I1 T1 hq => ?_) (fun x I1 T1 hq => ?_) hq
  · refine ev_br (p := x4 < v1) (a := 106) (b := 78) (st' := []) inferInstance rfl rfl (fun hb => ?_) (fun hb => ?_)
    · have hq := hq.1 hb
      refine ev_fg [false, false, false, true, false, true, false, true] (loc' := [none, none, none, none, none, none, none, none]) rfl ?_
      exact s_Search_compare_3_106 (T := T1) hq
    · have hq := hq.2 hb
      refine ev_seq 3 (ip' := 81) (loc' := [some (.ref 36), some (.ref 3), some (.int x2), none, some (.int x4), none, some (.int x6), none]) (st' := [(.int x2), (.ref 3), (.int x6)]) (I1 := I1) (T1 := T1) rfl ?_
      refine ev_callI rfl rfl rfl (fun v2 I2 T2 hq => ?_) (fun x I1 T1 hq => ?_) hq
      · refine ev_seq 3 (ip' := 85) (loc' := [some (.ref 36), some (.ref 3), some (.int x2), none, some (.int x4), none, some (.int x6), none]) (st' := [(.int (I2 3 7)), (.int (x6 + v2))]) (I1 := I2) (T1 := T2) rfl ?_
        refine ev_br (p := (I2 3 7) < (x6 + v2)) (a := 106) (b := 86) (st' := []) inferInstance rfl rfl (fun hb => ?_) (fun hb => ?_)
        · have hq := hq.1 hb
          refine ev_fg [false, false, false, true, false, true, false, true] (loc' := [none, none, none, none, none, none, none, none]) rfl ?_
          exact s_Search_compare_3_106 (T := T2) hq
        · have hq := hq.2 hb
          refine ev_seq 4 (ip' := 90) (loc' := [some (.ref 36), some (.ref 3), some (.int x2), none, some (.int x4), none, some (.int x6), none]) (st' := [(.int x4), (.int x2), (.ref 40)]) (I1 := I2) (T1 := T2) rfl ?_
          obtain ⟨hg, hq⟩ := hq
          refine ev_iast rfl rfl hg ?_
          refine ev_seq 4 (ip' := 95) (loc' := [some (.ref 36), some (.ref 3), some (.int x2), none, some (.int x4), none, some (.int x6), none]) (st' := [(.int x6), (.int x2), (.ref 41)]) (I1 := m_up I2 40 x2.toNatClampNeg x4) (T1 := T2) rfl ?_
          obtain ⟨hg, hq⟩ := hq
          refine ev_iast rfl rfl hg ?_
          refine ev_seq 9 (ip' := 105) (loc' := [some (.ref 36), some (.ref 3), some (.int x2), none, some (.int x4), none, some (.int x6), none]) (st' := [(.int 4), (.int (x2 * 4)), (.ref 39), (.int 0), (.ref 38)]) (I1 := m_up (m_up I2 40 x2.toNatClampNeg x4) 41 x2.toNatClampNeg x6) (T1 := T2) rfl ?_
          obtain ⟨hg, hq⟩ := hq
          refine ev_cpy (c := 38) (d := 39) rfl rfl rfl hg (by decide) ?_
          refine ev_fg [false, false, false, true, false, true, false, true] (loc' := [none, none, none, none, none, none, none, none]) rfl ?_
          exact s_Search_compare_3_106 (T := T2) hq
      · exact ⟨by decide, hq⟩
  · exact ⟨by decide, hq⟩
def t_Search_compare_3_49 (E : MEnv) (I : II) (T : TT) (Q : QQ) (x2 : Int32) (x3 : Int32) (x4 : Int32) (x5 : Int32) (x6 : Int32) : Prop := ev E 222 14 [some (.ref 36), some (.ref 3), some (.int x2), some (.int x3), some (.int x4), some (.int x5), some (.int (x6 + 1)), none] [] I T Q
theorem s_Search_compare_3_49 {E : MEnv} {I : II} {T : TT} {Q : QQ} {x2 : Int32} {x3 : Int32} {x4 : Int32} {x5 : Int32} {x6 : Int32} (hq : t_Search_compare_3_49 E I T Q x2 x3 x4 x5 x6) : ev E 222 49 [some (.ref 36), some (.ref 3), some (.int x2), some (.int x3), some (.int x4), some (.int x5), some (.int x6), none] [] I T Q := by
  unfold t_Search_compare_3_49 at hq
  refine ev_seq 2 (ip' := 14) (loc' := [some (.ref 36), some (.ref 3), some (.int x2), some (.int x3), some (.int x4), some (.int x5), some (.int (x6 + 1)), none]) (st' := []) (I1 := I) (T1 := T) rfl ?_
  exact hq
def t_Search_compare_3_47 (E : MEnv) (I : II) (T : TT) (Q : QQ) (x2 : Int32) (x3 : Int32) (x4 : Int32) (x6 : Int32) (y0 : Int32) (y1 : Int32) : Prop := t_Search_compare_3_49 E I T Q x2 x3 x4 (y0 + y1) x6
theorem s_Search_compare_3_47 {E : MEnv} {I : II} {T : TT} {Q : QQ} {x2 : Int32} {x3 : Int32} {x4 : Int32} {x6 : Int32} {y0 : Int32} {y1 : Int32} (hq : t_Search_compare_3_47 E I T Q x2 x3 x4 x6 y0 y1) : ev E 222 47 [some (.ref 36), some (.ref 3), some (.int x2), some (.int x3), some (.int x4), none, some (.int x6), none] [(.int y1), (.int y0)] I T Q := by
  unfold t_Search_compare_3_47 at hq
  refine ev_seq 2 (ip' := 49) (loc' := [some (.ref 36), some (.ref 3), some (.int x2), some (.int x3), some (.int x4), some (.int (y0 + y1)), some (.int x6), none]) (st' := []) (I1 := I) (T1 := T) rfl ?_
  exact s_Search_compare_3_49 (T := T) hq
def t_Search_compare_3_14 (E : MEnv) (I : II) (T : TT) (Q : QQ) (x2 : Int32) (x3 : Int32) (x4 : Int32) (x5 : Int32) (x6 : Int32) : Prop := (4 ≤ x6 → ((¬ x2 < 0 ∧ x2.toNatClampNeg < 6) ∧ ((x4 < (I 40 x2.toNatClampNeg) → (t_Search_compare_3_72 E I T Q )) ∧ (¬ (x4 < (I 40 x2.toNatClampNeg)) → ((¬ x2 < 0 ∧ x2.toNatClampNeg < 6) ∧ ((x4 = (I 40 x2.toNatClampNeg) → ((¬ x2 < 0 ∧ x2.toNatClampNeg < 6) ∧ (((if 0 ≤ x5 then x5 else 0 - x5) < (I 41 x2.toNatClampNeg) → (t_Search_compare_3_73 E I T Q x2 x4 (if 0 ≤ x5 then x5 else 0 - x5))) ∧ (¬ ((if 0 ≤ x5 then x5 else 0 - x5) < (I 41 x2.toNatClampNeg)) → (t_Search_compare_3_72 E I T Q ))))) ∧ (¬ (x4 = (I 40 x2.toNatClampNeg)) → (t_Search_compare_3_73 E I T Q x2 x4 (if 0 ≤ x5 then x5 else 0 - x5))))))))) ∧ (¬ (4 ≤ x6) → ((¬ x6 < 0 ∧ x6.toNatClampNeg < 4) ∧ (((I 38 x6.toNatClampNeg) = (-1) → (t_Search_compare_3_49 E I T Q x2 x3 x4 x5 x6)) ∧ (¬ ((I 38 x6.toNatClampNeg) = (-1)) → ((¬ x6 < 0 ∧ x6.toNatClampNeg < 4) ∧ (ev E 220 0 [some (.int (I 38 x6.toNatClampNeg)), some (.int x6), some (.int x3)] [] I T (KI (fun v1 I1 T1 => (¬ v1 < 0 ∧ v1.toNatClampNeg < 128) ∧ (((x6 &&& 1) = 0 → (t_Search_compare_3_47 E I1 T1 Q x2 x3 (x4 + (I1 37 v1.toNatClampNeg)) x6 x5 (I1 37 v1.toNatClampNeg))) ∧ (¬ ((x6 &&& 1) = 0) → (t_Search_compare_3_47 E I1 T1 Q x2 x3 (x4 + (I1 37 v1.toNatClampNeg)) x6 x5 (0 - (I1 37 v1.toNatClampNeg)))))) (fun _ _ _ => False))))))))
theorem s_Search_compare_3_14 {E : MEnv} {I : II} {T : TT} {Q : QQ} {x2 : Int32} {x3 : Int32} {x4 : Int32} {x5 : Int32} {x6 : Int32} (hq : t_Search_compare_3_14 E I T Q x2 x3 x4 x5 x6) : ev E 222 14 [some (.ref 36), some (.ref 3), some (.int x2), some (.int x3), some (.int x4), some (.int x5), some (.int x6), none] [] I T Q := by
  unfold t_Search_compare_3_14 at hq
  refine ev_seq 2 (ip' := 16) (loc' := [some (.ref 36), some (.ref 3), some (.int x2), some (.int x3), some (.int x4), some (.int x5), some (.int x6), none]) (st' := [(.int 4), (.int x6)]) (I1 := I) (T1 := T) rfl ?_
  refine ev_br (p := 4 ≤ x6) (a := 51) (b := 17) (st' := []) inferInstance rfl rfl (fun hb => ?_) (fun hb => ?_)
  · have hq := hq.1 hb
    refine ev_seq 7 (ip' := 58) (loc' := [some (.ref 36), some (.ref 3), some (.int x2), some (.int x3), some (.int x4), some (.int x5), some (.int (if 0 ≤ x5 then x5 else 0 - x5)), none]) (st' := [(.int x2), (.ref 40), (.int x4)]) (I1 := I) (T1 := T) rfl ?_
    obtain ⟨hg, hq⟩ := hq
    refine ev_iald rfl rfl hg ?_
    refine ev_br (p := x4 < (I 40 x2.toNatClampNeg)) (a := 72) (b := 60) (st' := []) inferInstance rfl rfl (fun hb => ?_) (fun hb => ?_)
    · have hq := hq.1 hb
      refine ev_fg [false, false, false, false, false, false, false, true] (loc' := [none, none, none, none, none, none, none, none]) rfl ?_
      exact s_Search_compare_3_72 (T := T) hq
    · have hq := hq.2 hb
      refine ev_seq 4 (ip' := 64) (loc' := [some (.ref 36), some (.ref 3), some (.int x2), some (.int x3), some (.int x4), some (.int x5), some (.int (if 0 ≤ x5 then x5 else 0 - x5)), none]) (st' := [(.int x2), (.ref 40), (.int x4)]) (I1 := I) (T1 := T) rfl ?_
      obtain ⟨hg, hq⟩ := hq
      refine ev_iald rfl rfl hg ?_
      refine ev_br (p := x4 = (I 40 x2.toNatClampNeg)) (a := 66) (b := 73) (st' := []) inferInstance rfl rfl (fun hb => ?_) (fun hb => ?_)
      · have hq := hq.1 hb
        refine ev_seq 4 (ip' := 70) (loc' := [some (.ref 36), some (.ref 3), some (.int x2), some (.int x3), some (.int x4), some (.int x5), some (.int (if 0 ≤ x5 then x5 else 0 - x5)), none]) (st' := [(.int x2), (.ref 41), (.int (if 0 ≤ x5 then x5 else 0 - x5))]) (I1 := I) (T1 := T) rfl ?_
        obtain ⟨hg, hq⟩ := hq
        refine ev_iald rfl rfl hg ?_
        refine ev_br (p := (if 0 ≤ x5 then x5 else 0 - x5) < (I 41 x2.toNatClampNeg)) (a := 73) (b := 72) (st' := []) inferInstance rfl rfl (fun hb => ?_) (fun hb => ?_)
        · have hq := hq.1 hb
          refine ev_fg [true, true, true, false, true, false, true, true] (loc' := [some (.ref 36), some (.ref 3), some (.int x2), none, some (.int x4), none, some (.int (if 0 ≤ x5 then x5 else 0 - x5)), none]) rfl ?_
          exact s_Search_compare_3_73 (T := T) hq
        · have hq := hq.2 hb
          refine ev_fg [false, false, false, false, false, false, false, true] (loc' := [none, none, none, none, none, none, none, none]) rfl ?_
          exact s_Search_compare_3_72 (T := T) hq
      · have hq := hq.2 hb
        refine ev_fg [true, true, true, false, true, false, true, true] (loc' := [some (.ref 36), some (.ref 3), some (.int x2), none, some (.int x4), none, some (.int (if 0 ≤ x5 then x5 else 0 - x5)), none]) rfl ?_
        exact s_Search_compare_3_73 (T := T) hq
  · have hq := hq.2 hb
    refine ev_seq 3 (ip' := 20) (loc' := [some (.ref 36), some (.ref 3), some (.int x2), some (.int x3), some (.int x4), some (.int x5), some (.int x6), none]) (st' := [(.int x6), (.ref 38)]) (I1 := I) (T1 := T) rfl ?_
    obtain ⟨hg, hq⟩ := hq
    refine ev_iald rfl rfl hg ?_
    refine ev_seq 1 (ip' := 22) (loc' := [some (.ref 36), some (.ref 3), some (.int x2), some (.int x3), some (.int x4), some (.int x5), some (.int x6), none]) (st' := [(.int (-1)), (.int (I 38 x6.toNatClampNeg))]) (I1 := I) (T1 := T) rfl ?_
    refine ev_br (p := (I 38 x6.toNatClampNeg) = (-1)) (a := 49) (b := 23) (st' := []) inferInstance rfl rfl (fun hb => ?_) (fun hb => ?_)
    · have hq := hq.1 hb
      exact s_Search_compare_3_49 (T := T) hq
    · have hq := hq.2 hb
      refine ev_seq 5 (ip' := 28) (loc' := [some (.ref 36), some (.ref 3), some (.int x2), some (.int x3), some (.int x4), some (.int x5), some (.int x6), none]) (st' := [(.int x6), (.ref 38), (.ref 37)]) (I1 := I) (T1 := T) rfl ?_
      obtain ⟨hg, hq⟩ := hq
      refine ev_iald rfl rfl hg ?_
      refine ev_seq 2 (ip' := 31) (loc' := [some (.ref 36), some (.ref 3), some (.int x2), some (.int x3), some (.int x4), some (.int x5), some (.int x6), none]) (st' := [(.int x3), (.int x6), (.int (I 38 x6.toNatClampNeg)), (.ref 37)]) (I1 := I) (T1 := T) rfl ?_
      refine ev_callI rfl rfl rfl (fun v1 I1 T1 hq => ?_) (fun x I1 T1 hq => ?_) hq
      · obtain ⟨hg, hq⟩ := hq
        refine ev_iald rfl rfl hg ?_
        refine ev_seq 9 (ip' := 42) (loc' := [some (.ref 36), some (.ref 3), some (.int x2), some (.int x3), some (.int (x4 + (I1 37 v1.toNatClampNeg))), some (.int x5), some (.int x6), some (.int (I1 37 v1.toNatClampNeg))]) (st' := [(.int (x6 &&& 1)), (.int x5)]) (I1 := I1) (T1 := T1) rfl ?_
        refine ev_br (p := (x6 &&& 1) = 0) (a := 43) (b := 45) (st' := [(.int x5)]) inferInstance rfl rfl (fun hb => ?_) (fun hb => ?_)
        · have hq := hq.1 hb
          refine ev_seq 2 (ip' := 47) (loc' := [some (.ref 36), some (.ref 3), some (.int x2), some (.int x3), some (.int (x4 + (I1 37 v1.toNatClampNeg))), some (.int x5), some (.int x6), some (.int (I1 37 v1.toNatClampNeg))]) (st' := [(.int (I1 37 v1.toNatClampNeg)), (.int x5)]) (I1 := I1) (T1 := T1) rfl ?_
          refine ev_fg [true, true, true, true, true, false, true, false] (loc' := [some (.ref 36), some (.ref 3), some (.int x2), some (.int x3), some (.int (x4 + (I1 37 v1.toNatClampNeg))), none, some (.int x6), none]) rfl ?_
          exact s_Search_compare_3_47 (T := T1) hq
        · have hq := hq.2 hb
          refine ev_seq 2 (ip' := 47) (loc' := [some (.ref 36), some (.ref 3), some (.int x2), some (.int x3), some (.int (x4 + (I1 37 v1.toNatClampNeg))), some (.int x5), some (.int x6), some (.int (I1 37 v1.toNatClampNeg))]) (st' := [(.int (0 - (I1 37 v1.toNatClampNeg))), (.int x5)]) (I1 := I1) (T1 := T1) rfl ?_
          refine ev_fg [true, true, true, true, true, false, true, false] (loc' := [some (.ref 36), some (.ref 3), some (.int x2), some (.int x3), some (.int (x4 + (I1 37 v1.toNatClampNeg))), none, some (.int x6), none]) rfl ?_
          exact s_Search_compare_3_47 (T := T1) hq
      · exact hq.elim
def t_Search_compare_3_0 (E : MEnv) (I : II) (T : TT) (Q : QQ) (x2 : Int32) (x3 : Int32) : Prop := (x3 = 0 → (t_Search_compare_3_7 E I T Q )) ∧ (¬ (x3 = 0) → (ev E 27 0 [some (.int x2), some (.int 0), some (.int 5)] [] I T (KI (fun v1 I1 T1 => (v1 = 0 → (t_Search_compare_3_7 E I1 T1 Q )) ∧ (¬ (v1 = 0) → (t_Search_compare_3_14 E I1 T1 Q x2 x3 0 0 0))) (fun _ _ _ => False))))
theorem s_Search_compare_3_0 {E : MEnv} {I : II} {T : TT} {Q : QQ} {x2 : Int32} {x3 : Int32} (hq : t_Search_compare_3_0 E I T Q x2 x3) : ev E 222 0 [some (.ref 36), some (.ref 3), some (.int x2), some (.int x3), none, none, none, none] [] I T Q := by
  unfold t_Search_compare_3_0 at hq
  refine ev_seq 1 (ip' := 1) (loc' := [some (.ref 36), some (.ref 3), some (.int x2), some (.int x3), none, none, none, none]) (st' := [(.int x3)]) (I1 := I) (T1 := T) rfl ?_
  refine ev_br (p := x3 = 0) (a := 7) (b := 2) (st' := []) inferInstance rfl rfl (fun hb => ?_) (fun hb => ?_)
  · have hq := hq.1 hb
    refine ev_fg [false, false, false, false, true, true, true, true] (loc' := [none, none, none, none, none, none, none, none]) rfl ?_
    exact s_Search_compare_3_7 (T := T) hq
  · have hq := hq.2 hb
    refine ev_seq 3 (ip' := 5) (loc' := [some (.ref 36), some (.ref 3), some (.int x2), some (.int x3), none, none, none, none]) (st' := [(.int 5), (.int 0), (.int x2)]) (I1 := I) (T1 := T) rfl ?_
    refine ev_callI rfl rfl rfl (fun v1 I1 T1 hq => ?_) (fun x I1 T1 hq => ?_) hq
    · refine ev_br (p := v1 = 0) (a := 7) (b := 8) (st' := []) inferInstance rfl rfl (fun hb => ?_) (fun hb => ?_)
      · have hq := hq.1 hb
        refine ev_fg [false, false, false, false, true, true, true, true] (loc' := [none, none, none, none, none, none, none, none]) rfl ?_
        exact s_Search_compare_3_7 (T := T1) hq
      · have hq := hq.2 hb
        refine ev_seq 6 (ip' := 14) (loc' := [some (.ref 36), some (.ref 3), some (.int x2), some (.int x3), some (.int 0), some (.int 0), some (.int 0), none]) (st' := []) (I1 := I1) (T1 := T1) rfl ?_
        exact s_Search_compare_3_14 (T := T1) hq
    · exact hq.elim
/-- FeltHarness$Search.fillFrom(LFeltHarness$House;IIII)V -/
def t_Search_fillFrom_3_5 (d9 : Nat) (X9 : Nat × (Nat → Int32)) (I : II) (T : TT) (Q : QQ) (x2 : Int32) (x4 : Int32) : Prop := ev (d9 + 1, X9) 123 0 [some (.int x4)] [] I T (KI (fun v1 I1 T1 => ev (d9 + 1, X9) 222 0 [some (.ref 36), some (.ref 3), some (.int x2), some (.int v1), none, none, none, none] [] I1 T1 (KV (fun I2 T2 => Q (.inl none) I2 T2) (fun x I1 T1 => Q (.inr x) I1 T1))) (fun _ _ _ => False))
theorem s_Search_fillFrom_3_5 {d9 : Nat} {X9 : Nat × (Nat → Int32)} {I : II} {T : TT} {Q : QQ} {x2 : Int32} {x4 : Int32} (hq : t_Search_fillFrom_3_5 d9 X9 I T Q x2 x4) : ev (d9 + 1, X9) 221 5 [some (.ref 36), some (.ref 3), some (.int x2), none, some (.int x4), none, none] [] I T Q := by
  unfold t_Search_fillFrom_3_5 at hq
  refine ev_seq 4 (ip' := 9) (loc' := [some (.ref 36), some (.ref 3), some (.int x2), none, some (.int x4), none, none]) (st' := [(.int x4), (.int x2), (.ref 3), (.ref 36)]) (I1 := I) (T1 := T) rfl ?_
  refine ev_callI rfl rfl rfl (fun v1 I1 T1 hq => ?_) (fun x I1 T1 hq => ?_) hq
  · refine ev_callV rfl rfl rfl (fun I2 T2 hq => ?_) (fun x I1 T1 hq => ?_) hq
    · exact ev_ret rfl rfl hq
    · exact ⟨by decide, hq⟩
  · exact hq.elim
def t_Search_fillFrom_3_48 (d9 : Nat) (X9 : Nat × (Nat → Int32)) (I : II) (T : TT) (Q : QQ) (x2 : Int32) (x3 : Int32) (x4 : Int32) (x5 : Int32) (x6 : Int32) : Prop := ev (d9 + 1, X9) 221 14 [some (.ref 36), some (.ref 3), some (.int x2), some (.int x3), some (.int x4), some (.int x5), some (.int (x6 + 1))] [] I T Q
theorem s_Search_fillFrom_3_48 {d9 : Nat} {X9 : Nat × (Nat → Int32)} {I : II} {T : TT} {Q : QQ} {x2 : Int32} {x3 : Int32} {x4 : Int32} {x5 : Int32} {x6 : Int32} (hq : t_Search_fillFrom_3_48 d9 X9 I T Q x2 x3 x4 x5 x6) : ev (d9 + 1, X9) 221 48 [some (.ref 36), some (.ref 3), some (.int x2), some (.int x3), some (.int x4), some (.int x5), some (.int x6)] [] I T Q := by
  unfold t_Search_fillFrom_3_48 at hq
  refine ev_seq 2 (ip' := 14) (loc' := [some (.ref 36), some (.ref 3), some (.int x2), some (.int x3), some (.int x4), some (.int x5), some (.int (x6 + 1))]) (st' := []) (I1 := I) (T1 := T) rfl ?_
  exact hq
def t_Search_fillFrom_3_14 (d9 : Nat) (X9 : Nat × (Nat → Int32)) (I : II) (T : TT) (Q : QQ) (x2 : Int32) (x3 : Int32) (x4 : Int32) (x5 : Int32) (x6 : Int32) : Prop := ((I 3 5) ≤ x6 → ((¬ x3 < 0 ∧ x3.toNatClampNeg < 4) ∧ (ev (d9, X9) 221 0 [some (.ref 36), some (.ref 3), some (.int x2), some (.int (x3 + 1)), some (.int x4), some (.int x5), none] [] (m_up I 38 x3.toNatClampNeg (-1)) T (KV (fun I1 T1 => Q (.inl none) I1 T1) (fun x I1 T1 => Q (.inr x) I1 T1))))) ∧ (¬ ((I 3 5) ≤ x6) → (((((x4 ||| x5) >>> (x6 &&& 31)) &&& 1) = 0 → ((¬ x3 < 0 ∧ x3.toNatClampNeg < 4) ∧ (ev (d9 + 1, X9) 111 0 [some (.ref 3), some (.int x6)] [] (m_up I 38 x3.toNatClampNeg x6) T (KI (fun v2 I2 T2 => ev (d9, X9) 221 0 [some (.ref 36), some (.ref 3), some (.int x2), some (.int (x3 + 1)), some (.int (x4 ||| ((1 : Int32) <<< (x6 &&& 31)))), some (.int (x5 ||| v2)), none] [] I2 T2 (KV (fun I3 T3 => t_Search_fillFrom_3_48 d9 X9 I3 T3 Q x2 x3 x4 x5 x6) (fun x I1 T1 => Q (.inr x) I1 T1))) (fun x I1 T1 => Q (.inr x) I1 T1))))) ∧ (¬ ((((x4 ||| x5) >>> (x6 &&& 31)) &&& 1) = 0) → (t_Search_fillFrom_3_48 d9 X9 I T Q x2 x3 x4 x5 x6))))
theorem s_Search_fillFrom_3_14 {d9 : Nat} {X9 : Nat × (Nat → Int32)} {I : II} {T : TT} {Q : QQ} {x2 : Int32} {x3 : Int32} {x4 : Int32} {x5 : Int32} {x6 : Int32} (hq : t_Search_fillFrom_3_14 d9 X9 I T Q x2 x3 x4 x5 x6) : ev (d9 + 1, X9) 221 14 [some (.ref 36), some (.ref 3), some (.int x2), some (.int x3), some (.int x4), some (.int x5), some (.int x6)] [] I T Q := by
  unfold t_Search_fillFrom_3_14 at hq
  refine ev_seq 3 (ip' := 17) (loc' := [some (.ref 36), some (.ref 3), some (.int x2), some (.int x3), some (.int x4), some (.int x5), some (.int x6)]) (st' := [(.int (I 3 5)), (.int x6)]) (I1 := I) (T1 := T) rfl ?_
  refine ev_br (p := (I 3 5) ≤ x6) (a := 50) (b := 18) (st' := []) inferInstance rfl rfl (fun hb => ?_) (fun hb => ?_)
  · have hq := hq.1 hb
    refine ev_seq 4 (ip' := 54) (loc' := [some (.ref 36), some (.ref 3), some (.int x2), some (.int x3), some (.int x4), some (.int x5), some (.int x6)]) (st' := [(.int (-1)), (.int x3), (.ref 38)]) (I1 := I) (T1 := T) rfl ?_
    obtain ⟨hg, hq⟩ := hq
    refine ev_iast rfl rfl hg ?_
    refine ev_seq 8 (ip' := 63) (loc' := [some (.ref 36), some (.ref 3), some (.int x2), some (.int x3), some (.int x4), some (.int x5), some (.int x6)]) (st' := [(.int x5), (.int x4), (.int (x3 + 1)), (.int x2), (.ref 3), (.ref 36)]) (I1 := m_up I 38 x3.toNatClampNeg (-1)) (T1 := T) rfl ?_
    refine ev_callV rfl rfl rfl (fun I1 T1 hq => ?_) (fun x I1 T1 hq => ?_) hq
    · exact ev_ret rfl rfl hq
    · exact ⟨by decide, hq⟩
  · have hq := hq.2 hb
    refine ev_seq 7 (ip' := 25) (loc' := [some (.ref 36), some (.ref 3), some (.int x2), some (.int x3), some (.int x4), some (.int x5), some (.int x6)]) (st' := [(.int (((x4 ||| x5) >>> (x6 &&& 31)) &&& 1))]) (I1 := I) (T1 := T) rfl ?_
    refine ev_br (p := (((x4 ||| x5) >>> (x6 &&& 31)) &&& 1) = 0) (a := 26) (b := 48) (st' := []) inferInstance rfl rfl (fun hb => ?_) (fun hb => ?_)
    · have hq := hq.1 hb
      refine ev_seq 4 (ip' := 30) (loc' := [some (.ref 36), some (.ref 3), some (.int x2), some (.int x3), some (.int x4), some (.int x5), some (.int x6)]) (st' := [(.int x6), (.int x3), (.ref 38)]) (I1 := I) (T1 := T) rfl ?_
      obtain ⟨hg, hq⟩ := hq
      refine ev_iast rfl rfl hg ?_
      refine ev_seq 14 (ip' := 45) (loc' := [some (.ref 36), some (.ref 3), some (.int x2), some (.int x3), some (.int x4), some (.int x5), some (.int x6)]) (st' := [(.int x6), (.ref 3), (.int x5), (.int (x4 ||| ((1 : Int32) <<< (x6 &&& 31)))), (.int (x3 + 1)), (.int x2), (.ref 3), (.ref 36)]) (I1 := m_up I 38 x3.toNatClampNeg x6) (T1 := T) rfl ?_
      refine ev_callI rfl rfl rfl (fun v2 I2 T2 hq => ?_) (fun x I1 T1 hq => ?_) hq
      · refine ev_seq 1 (ip' := 47) (loc' := [some (.ref 36), some (.ref 3), some (.int x2), some (.int x3), some (.int x4), some (.int x5), some (.int x6)]) (st' := [(.int (x5 ||| v2)), (.int (x4 ||| ((1 : Int32) <<< (x6 &&& 31)))), (.int (x3 + 1)), (.int x2), (.ref 3), (.ref 36)]) (I1 := I2) (T1 := T2) rfl ?_
        refine ev_callV rfl rfl rfl (fun I3 T3 hq => ?_) (fun x I1 T1 hq => ?_) hq
        · exact s_Search_fillFrom_3_48 (T := T3) hq
        · exact ⟨by decide, hq⟩
      · exact ⟨by decide, hq⟩
    · have hq := hq.2 hb
      exact s_Search_fillFrom_3_48 (T := T) hq
def t_Search_fillFrom_3_0 (d9 : Nat) (X9 : Nat × (Nat → Int32)) (I : II) (T : TT) (Q : QQ) (x2 : Int32) (x3 : Int32) (x4 : Int32) (x5 : Int32) : Prop := (x3 < 0 → (t_Search_fillFrom_3_5 d9 X9 I T Q x2 x4)) ∧ (¬ (x3 < 0) → ((x3 < 4 → (t_Search_fillFrom_3_14 d9 X9 I T Q x2 x3 x4 x5 0)) ∧ (¬ (x3 < 4) → (t_Search_fillFrom_3_5 d9 X9 I T Q x2 x4))))
theorem s_Search_fillFrom_3_0 {d9 : Nat} {X9 : Nat × (Nat → Int32)} {I : II} {T : TT} {Q : QQ} {x2 : Int32} {x3 : Int32} {x4 : Int32} {x5 : Int32} (hq : t_Search_fillFrom_3_0 d9 X9 I T Q x2 x3 x4 x5) : ev (d9 + 1, X9) 221 0 [some (.ref 36), some (.ref 3), some (.int x2), some (.int x3), some (.int x4), some (.int x5), none] [] I T Q := by
  unfold t_Search_fillFrom_3_0 at hq
  refine ev_seq 1 (ip' := 1) (loc' := [some (.ref 36), some (.ref 3), some (.int x2), some (.int x3), some (.int x4), some (.int x5), none]) (st' := [(.int x3)]) (I1 := I) (T1 := T) rfl ?_
  refine ev_br (p := x3 < 0) (a := 5) (b := 2) (st' := []) inferInstance rfl rfl (fun hb => ?_) (fun hb => ?_)
  · have hq := hq.1 hb
    refine ev_fg [true, true, true, false, true, false, true] (loc' := [some (.ref 36), some (.ref 3), some (.int x2), none, some (.int x4), none, none]) rfl ?_
    exact s_Search_fillFrom_3_5 (T := T) hq
  · have hq := hq.2 hb
    refine ev_seq 2 (ip' := 4) (loc' := [some (.ref 36), some (.ref 3), some (.int x2), some (.int x3), some (.int x4), some (.int x5), none]) (st' := [(.int 4), (.int x3)]) (I1 := I) (T1 := T) rfl ?_
    refine ev_br (p := x3 < 4) (a := 12) (b := 5) (st' := []) inferInstance rfl rfl (fun hb => ?_) (fun hb => ?_)
    · have hq := hq.1 hb
      refine ev_seq 2 (ip' := 14) (loc' := [some (.ref 36), some (.ref 3), some (.int x2), some (.int x3), some (.int x4), some (.int x5), some (.int 0)]) (st' := []) (I1 := I) (T1 := T) rfl ?_
      exact s_Search_fillFrom_3_14 (T := T) hq
    · have hq := hq.2 hb
      refine ev_fg [true, true, true, false, true, false, true] (loc' := [some (.ref 36), some (.ref 3), some (.int x2), none, some (.int x4), none, none]) rfl ?_
      exact s_Search_fillFrom_3_5 (T := T) hq
/-- FeltHarness$Search.find(LFeltHarness$Coach;I)V -/
def t_Search_find_28_13 (E : MEnv) (I : II) (T : TT) (Q : QQ) : Prop := Q (.inl none) I T
theorem s_Search_find_28_13 {E : MEnv} {I : II} {T : TT} {Q : QQ} (hq : t_Search_find_28_13 E I T Q) : ev E 219 13 [none, none, none, none, none, none] [] I T Q := by
  unfold t_Search_find_28_13 at hq
  exact ev_ret rfl rfl hq
def t_Search_find_28_53 (E : MEnv) (I : II) (T : TT) (Q : QQ) (x2 : Int32) (x3 : Int32) (x4 : Int32) (x5 : Int32) : Prop := (4 < x5 → (ev E 219 48 [some (.ref 36), some (.ref 28), some (.int x2), some (.int x3), some (.int (x4 + 1)), none] [] I T Q)) ∧ (¬ (4 < x5) → (ev E 220 0 [some (.int x4), some (.int x3), some (.int x5)] [] I T (KI (fun v1 I1 T1 => ev E 124 0 [some (.ref 28), some (.int x4), some (.int x3), some (.int x5)] [] I1 T1 (KI (fun v2 I2 T2 => (¬ v1 < 0 ∧ v1.toNatClampNeg < 128) ∧ (ev E 219 53 [some (.ref 36), some (.ref 28), some (.int x2), some (.int x3), some (.int x4), some (.int (x5 + 1))] [] (m_up I2 37 v1.toNatClampNeg v2) T2 Q)) (fun x I1 T1 => Q (.inr x) I1 T1))) (fun _ _ _ => False))))
theorem s_Search_find_28_53 {E : MEnv} {I : II} {T : TT} {Q : QQ} {x2 : Int32} {x3 : Int32} {x4 : Int32} {x5 : Int32} (hq : t_Search_find_28_53 E I T Q x2 x3 x4 x5) : ev E 219 53 [some (.ref 36), some (.ref 28), some (.int x2), some (.int x3), some (.int x4), some (.int x5)] [] I T Q := by
  unfold t_Search_find_28_53 at hq
  refine ev_seq 2 (ip' := 55) (loc' := [some (.ref 36), some (.ref 28), some (.int x2), some (.int x3), some (.int x4), some (.int x5)]) (st' := [(.int 4), (.int x5)]) (I1 := I) (T1 := T) rfl ?_
  refine ev_br (p := 4 < x5) (a := 70) (b := 56) (st' := []) inferInstance rfl rfl (fun hb => ?_) (fun hb => ?_)
  · have hq := hq.1 hb
    refine ev_seq 2 (ip' := 48) (loc' := [some (.ref 36), some (.ref 28), some (.int x2), some (.int x3), some (.int (x4 + 1)), some (.int x5)]) (st' := []) (I1 := I) (T1 := T) rfl ?_
    refine ev_fg [true, true, true, true, true, false] (loc' := [some (.ref 36), some (.ref 28), some (.int x2), some (.int x3), some (.int (x4 + 1)), none]) rfl ?_
    exact hq
  · have hq := hq.2 hb
    refine ev_seq 5 (ip' := 61) (loc' := [some (.ref 36), some (.ref 28), some (.int x2), some (.int x3), some (.int x4), some (.int x5)]) (st' := [(.int x5), (.int x3), (.int x4), (.ref 37)]) (I1 := I) (T1 := T) rfl ?_
    refine ev_callI rfl rfl rfl (fun v1 I1 T1 hq => ?_) (fun x I1 T1 hq => ?_) hq
    · refine ev_seq 4 (ip' := 66) (loc' := [some (.ref 36), some (.ref 28), some (.int x2), some (.int x3), some (.int x4), some (.int x5)]) (st' := [(.int x5), (.int x3), (.int x4), (.ref 28), (.int v1), (.ref 37)]) (I1 := I1) (T1 := T1) rfl ?_
      refine ev_callI rfl rfl rfl (fun v2 I2 T2 hq => ?_) (fun x I1 T1 hq => ?_) hq
      · obtain ⟨hg, hq⟩ := hq
        refine ev_iast rfl rfl hg ?_
        refine ev_seq 2 (ip' := 53) (loc' := [some (.ref 36), some (.ref 28), some (.int x2), some (.int x3), some (.int x4), some (.int (x5 + 1))]) (st' := []) (I1 := m_up I2 37 v1.toNatClampNeg v2) (T1 := T2) rfl ?_
        exact hq
      · exact ⟨by decide, hq⟩
    · exact hq.elim
def t_Search_find_28_48 (E : MEnv) (I : II) (T : TT) (Q : QQ) (x2 : Int32) (x3 : Int32) (x4 : Int32) : Prop := (8 ≤ x4 → (ev E 219 34 [some (.ref 36), some (.ref 28), some (.int x2), some (.int (x3 + 1)), none, none] [] I T Q)) ∧ (¬ (8 ≤ x4) → (t_Search_find_28_53 E I T Q x2 x3 x4 1))
theorem s_Search_find_28_48 {E : MEnv} {I : II} {T : TT} {Q : QQ} {x2 : Int32} {x3 : Int32} {x4 : Int32} (hq : t_Search_find_28_48 E I T Q x2 x3 x4) : ev E 219 48 [some (.ref 36), some (.ref 28), some (.int x2), some (.int x3), some (.int x4), none] [] I T Q := by
  unfold t_Search_find_28_48 at hq
  refine ev_seq 2 (ip' := 50) (loc' := [some (.ref 36), some (.ref 28), some (.int x2), some (.int x3), some (.int x4), none]) (st' := [(.int 8), (.int x4)]) (I1 := I) (T1 := T) rfl ?_
  refine ev_br (p := 8 ≤ x4) (a := 72) (b := 51) (st' := []) inferInstance rfl rfl (fun hb => ?_) (fun hb => ?_)
  · have hq := hq.1 hb
    refine ev_seq 2 (ip' := 34) (loc' := [some (.ref 36), some (.ref 28), some (.int x2), some (.int (x3 + 1)), some (.int x4), none]) (st' := []) (I1 := I) (T1 := T) rfl ?_
    refine ev_fg [true, true, true, true, false, true] (loc' := [some (.ref 36), some (.ref 28), some (.int x2), some (.int (x3 + 1)), none, none]) rfl ?_
    exact hq
  · have hq := hq.2 hb
    refine ev_seq 2 (ip' := 53) (loc' := [some (.ref 36), some (.ref 28), some (.int x2), some (.int x3), some (.int x4), some (.int 1)]) (st' := []) (I1 := I) (T1 := T) rfl ?_
    exact s_Search_find_28_53 (T := T) hq
def t_Search_find_28_34 (E : MEnv) (I : II) (T : TT) (Q : QQ) (x2 : Int32) (x3 : Int32) : Prop := (4 ≤ x3 → (ev E 221 0 [some (.ref 36), some (.ref 3), some (.int x2), some (.int 0), some (.int 0), some (.int 0), none] [] I T (KV (fun I1 T1 => Q (.inl none) I1 T1) (fun x I1 T1 => Q (.inr x) I1 T1)))) ∧ (¬ (4 ≤ x3) → ((¬ ((x2 * 4) + x3) < 0 ∧ ((x2 * 4) + x3).toNatClampNeg < 24) ∧ (t_Search_find_28_48 E (m_up I 39 ((x2 * 4) + x3).toNatClampNeg (-1)) T Q x2 x3 0)))
theorem s_Search_find_28_34 {E : MEnv} {I : II} {T : TT} {Q : QQ} {x2 : Int32} {x3 : Int32} (hq : t_Search_find_28_34 E I T Q x2 x3) : ev E 219 34 [some (.ref 36), some (.ref 28), some (.int x2), some (.int x3), none, none] [] I T Q := by
  unfold t_Search_find_28_34 at hq
  refine ev_seq 2 (ip' := 36) (loc' := [some (.ref 36), some (.ref 28), some (.int x2), some (.int x3), none, none]) (st' := [(.int 4), (.int x3)]) (I1 := I) (T1 := T) rfl ?_
  refine ev_br (p := 4 ≤ x3) (a := 74) (b := 37) (st' := []) inferInstance rfl rfl (fun hb => ?_) (fun hb => ?_)
  · have hq := hq.1 hb
    refine ev_seq 7 (ip' := 81) (loc' := [some (.ref 36), some (.ref 28), some (.int x2), some (.int x3), none, none]) (st' := [(.int 0), (.int 0), (.int 0), (.int x2), (.ref 3), (.ref 36)]) (I1 := I) (T1 := T) rfl ?_
    refine ev_callV rfl rfl rfl (fun I1 T1 hq => ?_) (fun x I1 T1 hq => ?_) hq
    · exact ev_ret rfl rfl hq
    · exact ⟨by decide, hq⟩
  · have hq := hq.2 hb
    refine ev_seq 8 (ip' := 45) (loc' := [some (.ref 36), some (.ref 28), some (.int x2), some (.int x3), none, none]) (st' := [(.int (-1)), (.int ((x2 * 4) + x3)), (.ref 39)]) (I1 := I) (T1 := T) rfl ?_
    obtain ⟨hg, hq⟩ := hq
    refine ev_iast rfl rfl hg ?_
    refine ev_seq 2 (ip' := 48) (loc' := [some (.ref 36), some (.ref 28), some (.int x2), some (.int x3), some (.int 0), none]) (st' := []) (I1 := m_up I 39 ((x2 * 4) + x3).toNatClampNeg (-1)) (T1 := T) rfl ?_
    exact s_Search_find_28_48 (T := T) hq
def t_Search_find_28_0 (E : MEnv) (I : II) (T : TT) (Q : QQ) (x2 : Int32) : Prop := ev E 27 0 [some (.int x2), some (.int 0), some (.int 5)] [] I T (KI (fun v1 I1 T1 => (v1 = 0 → (t_Search_find_28_13 E I1 T1 Q )) ∧ (¬ (v1 = 0) → (((((I1 36 5) >>> (x2 &&& 31)) &&& 1) = 1 → (t_Search_find_28_13 E I1 T1 Q )) ∧ (¬ ((((I1 36 5) >>> (x2 &&& 31)) &&& 1) = 1) → ((¬ x2 < 0 ∧ x2.toNatClampNeg < 6) ∧ ((¬ x2 < 0 ∧ x2.toNatClampNeg < 6) ∧ (t_Search_find_28_34 E (m_up (m_up (m_up I1 36 5 ((I1 36 5) ||| ((1 : Int32) <<< (x2 &&& 31)))) 40 x2.toNatClampNeg (-1)) 41 x2.toNatClampNeg (-1)) T1 Q x2 0))))))) (fun _ _ _ => False))
theorem s_Search_find_28_0 {E : MEnv} {I : II} {T : TT} {Q : QQ} {x2 : Int32} (hq : t_Search_find_28_0 E I T Q x2) : ev E 219 0 [some (.ref 36), some (.ref 28), some (.int x2), none, none, none] [] I T Q := by
  unfold t_Search_find_28_0 at hq
  refine ev_seq 3 (ip' := 3) (loc' := [some (.ref 36), some (.ref 28), some (.int x2), none, none, none]) (st' := [(.int 5), (.int 0), (.int x2)]) (I1 := I) (T1 := T) rfl ?_
  refine ev_callI rfl rfl rfl (fun v1 I1 T1 hq => ?_) (fun x I1 T1 hq => ?_) hq
  · refine ev_br (p := v1 = 0) (a := 13) (b := 5) (st' := []) inferInstance rfl rfl (fun hb => ?_) (fun hb => ?_)
    · have hq := hq.1 hb
      refine ev_fg [false, false, false, true, true, true] (loc' := [none, none, none, none, none, none]) rfl ?_
      exact s_Search_find_28_13 (T := T1) hq
    · have hq := hq.2 hb
      refine ev_seq 7 (ip' := 12) (loc' := [some (.ref 36), some (.ref 28), some (.int x2), none, none, none]) (st' := [(.int 1), (.int (((I1 36 5) >>> (x2 &&& 31)) &&& 1))]) (I1 := I1) (T1 := T1) rfl ?_
      refine ev_br (p := (((I1 36 5) >>> (x2 &&& 31)) &&& 1) = 1) (a := 13) (b := 14) (st' := []) inferInstance rfl rfl (fun hb => ?_) (fun hb => ?_)
      · have hq := hq.1 hb
        refine ev_fg [false, false, false, true, true, true] (loc' := [none, none, none, none, none, none]) rfl ?_
        exact s_Search_find_28_13 (T := T1) hq
      · have hq := hq.2 hb
        refine ev_seq 12 (ip' := 26) (loc' := [some (.ref 36), some (.ref 28), some (.int x2), none, none, none]) (st' := [(.int (-1)), (.int x2), (.ref 40)]) (I1 := m_up I1 36 5 ((I1 36 5) ||| ((1 : Int32) <<< (x2 &&& 31)))) (T1 := T1) rfl ?_
        obtain ⟨hg, hq⟩ := hq
        refine ev_iast rfl rfl hg ?_
        refine ev_seq 4 (ip' := 31) (loc' := [some (.ref 36), some (.ref 28), some (.int x2), none, none, none]) (st' := [(.int (-1)), (.int x2), (.ref 41)]) (I1 := m_up (m_up I1 36 5 ((I1 36 5) ||| ((1 : Int32) <<< (x2 &&& 31)))) 40 x2.toNatClampNeg (-1)) (T1 := T1) rfl ?_
        obtain ⟨hg, hq⟩ := hq
        refine ev_iast rfl rfl hg ?_
        refine ev_seq 2 (ip' := 34) (loc' := [some (.ref 36), some (.ref 28), some (.int x2), some (.int 0), none, none]) (st' := []) (I1 := m_up (m_up (m_up I1 36 5 ((I1 36 5) ||| ((1 : Int32) <<< (x2 &&& 31)))) 40 x2.toNatClampNeg (-1)) 41 x2.toNatClampNeg (-1)) (T1 := T1) rfl ?_
        exact s_Search_find_28_34 (T := T1) hq
  · exact hq.elim
/-- FeltHarness$Search.forceIndex(III)I -/
def t_Search_forceIndex_0 (E : MEnv) (I : II) (T : TT) (Q : QQ) (x0 : Int32) (x1 : Int32) (x2 : Int32) : Prop := Q (.inl (some (.int ((((((x2 - 1) &&& 3) * 4) + (x1 &&& 3)) * 8) + (x0 &&& 7))))) I T
theorem s_Search_forceIndex_0 {E : MEnv} {I : II} {T : TT} {Q : QQ} {x0 : Int32} {x1 : Int32} {x2 : Int32} (hq : t_Search_forceIndex_0 E I T Q x0 x1 x2) : ev E 220 0 [some (.int x0), some (.int x1), some (.int x2)] [] I T Q := by
  unfold t_Search_forceIndex_0 at hq
  refine ev_seq 17 (ip' := 17) (loc' := [some (.int x0), some (.int x1), some (.int x2)]) (st' := [(.int ((((((x2 - 1) &&& 3) * 4) + (x1 &&& 3)) * 8) + (x0 &&& 7)))]) (I1 := I) (T1 := T) rfl ?_
  exact ev_ret rfl rfl hq
/-- FeltHarness$Search.forget()V -/
def t_Search_forget_0 (E : MEnv) (I : II) (T : TT) (Q : QQ) : Prop := Q (.inl none) (m_up I 36 5 0) T
theorem s_Search_forget_0 {E : MEnv} {I : II} {T : TT} {Q : QQ} (hq : t_Search_forget_0 E I T Q) : ev E 53 0 [some (.ref 36)] [] I T Q := by
  unfold t_Search_forget_0 at hq
  refine ev_seq 3 (ip' := 3) (loc' := [some (.ref 36)]) (st' := []) (I1 := m_up I 36 5 0) (T1 := T) rfl ?_
  exact ev_ret rfl rfl hq
/-- FeltHarness$Search.strengthFor(LFeltHarness$Coach;I)I -/
def t_Search_strengthFor_28_15 (E : MEnv) (I : II) (T : TT) (Q : QQ) (y0 : Int32) : Prop := Q (.inl (some (.int y0))) I T
theorem s_Search_strengthFor_28_15 {E : MEnv} {I : II} {T : TT} {Q : QQ} {y0 : Int32} (hq : t_Search_strengthFor_28_15 E I T Q y0) : ev E 218 15 [none, none, none] [(.int y0)] I T Q := by
  unfold t_Search_strengthFor_28_15 at hq
  exact ev_ret rfl rfl hq
def t_Search_strengthFor_28_0 (E : MEnv) (I : II) (T : TT) (Q : QQ) (x2 : Int32) : Prop := ev E 219 0 [some (.ref 36), some (.ref 28), some (.int x2), none, none, none] [] I T (KV (fun I1 T1 => ev E 27 0 [some (.int x2), some (.int 0), some (.int 5)] [] I1 T1 (KI (fun v2 I2 T2 => (v2 = 0 → (t_Search_strengthFor_28_15 E I2 T2 Q (-1))) ∧ (¬ (v2 = 0) → ((¬ x2 < 0 ∧ x2.toNatClampNeg < 6) ∧ (t_Search_strengthFor_28_15 E I2 T2 Q (I2 40 x2.toNatClampNeg))))) (fun _ _ _ => False))) (fun x I1 T1 => Q (.inr x) I1 T1))
theorem s_Search_strengthFor_28_0 {E : MEnv} {I : II} {T : TT} {Q : QQ} {x2 : Int32} (hq : t_Search_strengthFor_28_0 E I T Q x2) : ev E 218 0 [some (.ref 36), some (.ref 28), some (.int x2)] [] I T Q := by
  unfold t_Search_strengthFor_28_0 at hq
  refine ev_seq 3 (ip' := 3) (loc' := [some (.ref 36), some (.ref 28), some (.int x2)]) (st' := [(.int x2), (.ref 28), (.ref 36)]) (I1 := I) (T1 := T) rfl ?_
  refine ev_callV rfl rfl rfl (fun I1 T1 hq => ?_) (fun x I1 T1 hq => ?_) hq
  · refine ev_seq 3 (ip' := 7) (loc' := [some (.ref 36), some (.ref 28), some (.int x2)]) (st' := [(.int 5), (.int 0), (.int x2)]) (I1 := I1) (T1 := T1) rfl ?_
    refine ev_callI rfl rfl rfl (fun v2 I2 T2 hq => ?_) (fun x I1 T1 hq => ?_) hq
    · refine ev_br (p := v2 = 0) (a := 14) (b := 9) (st' := []) inferInstance rfl rfl (fun hb => ?_) (fun hb => ?_)
      · have hq := hq.1 hb
        refine ev_seq 1 (ip' := 15) (loc' := [some (.ref 36), some (.ref 28), some (.int x2)]) (st' := [(.int (-1))]) (I1 := I2) (T1 := T2) rfl ?_
        refine ev_fg [false, false, false] (loc' := [none, none, none]) rfl ?_
        exact s_Search_strengthFor_28_15 (T := T2) hq
      · have hq := hq.2 hb
        refine ev_seq 3 (ip' := 12) (loc' := [some (.ref 36), some (.ref 28), some (.int x2)]) (st' := [(.int x2), (.ref 40)]) (I1 := I2) (T1 := T2) rfl ?_
        obtain ⟨hg, hq⟩ := hq
        refine ev_iald rfl rfl hg ?_
        refine ev_seq 1 (ip' := 15) (loc' := [some (.ref 36), some (.ref 28), some (.int x2)]) (st' := [(.int (I2 40 x2.toNatClampNeg))]) (I1 := I2) (T1 := T2) rfl ?_
        refine ev_fg [false, false, false] (loc' := [none, none, none]) rfl ?_
        exact s_Search_strengthFor_28_15 (T := T2) hq
    · exact hq.elim
  · exact ⟨by decide, hq⟩
/-- FeltHarness$Search.tiltFor(LFeltHarness$Coach;I)I -/
def t_Search_tiltFor_28_15 (E : MEnv) (I : II) (T : TT) (Q : QQ) (y0 : Int32) : Prop := Q (.inl (some (.int y0))) I T
theorem s_Search_tiltFor_28_15 {E : MEnv} {I : II} {T : TT} {Q : QQ} {y0 : Int32} (hq : t_Search_tiltFor_28_15 E I T Q y0) : ev E 223 15 [none, none, none] [(.int y0)] I T Q := by
  unfold t_Search_tiltFor_28_15 at hq
  exact ev_ret rfl rfl hq
def t_Search_tiltFor_28_0 (E : MEnv) (I : II) (T : TT) (Q : QQ) (x2 : Int32) : Prop := ev E 219 0 [some (.ref 36), some (.ref 28), some (.int x2), none, none, none] [] I T (KV (fun I1 T1 => ev E 27 0 [some (.int x2), some (.int 0), some (.int 5)] [] I1 T1 (KI (fun v2 I2 T2 => (v2 = 0 → (t_Search_tiltFor_28_15 E I2 T2 Q (-1))) ∧ (¬ (v2 = 0) → ((¬ x2 < 0 ∧ x2.toNatClampNeg < 6) ∧ (t_Search_tiltFor_28_15 E I2 T2 Q (I2 41 x2.toNatClampNeg))))) (fun _ _ _ => False))) (fun x I1 T1 => Q (.inr x) I1 T1))
theorem s_Search_tiltFor_28_0 {E : MEnv} {I : II} {T : TT} {Q : QQ} {x2 : Int32} (hq : t_Search_tiltFor_28_0 E I T Q x2) : ev E 223 0 [some (.ref 36), some (.ref 28), some (.int x2)] [] I T Q := by
  unfold t_Search_tiltFor_28_0 at hq
  refine ev_seq 3 (ip' := 3) (loc' := [some (.ref 36), some (.ref 28), some (.int x2)]) (st' := [(.int x2), (.ref 28), (.ref 36)]) (I1 := I) (T1 := T) rfl ?_
  refine ev_callV rfl rfl rfl (fun I1 T1 hq => ?_) (fun x I1 T1 hq => ?_) hq
  · refine ev_seq 3 (ip' := 7) (loc' := [some (.ref 36), some (.ref 28), some (.int x2)]) (st' := [(.int 5), (.int 0), (.int x2)]) (I1 := I1) (T1 := T1) rfl ?_
    refine ev_callI rfl rfl rfl (fun v2 I2 T2 hq => ?_) (fun x I1 T1 hq => ?_) hq
    · refine ev_br (p := v2 = 0) (a := 14) (b := 9) (st' := []) inferInstance rfl rfl (fun hb => ?_) (fun hb => ?_)
      · have hq := hq.1 hb
        refine ev_seq 1 (ip' := 15) (loc' := [some (.ref 36), some (.ref 28), some (.int x2)]) (st' := [(.int (-1))]) (I1 := I2) (T1 := T2) rfl ?_
        refine ev_fg [false, false, false] (loc' := [none, none, none]) rfl ?_
        exact s_Search_tiltFor_28_15 (T := T2) hq
      · have hq := hq.2 hb
        refine ev_seq 3 (ip' := 12) (loc' := [some (.ref 36), some (.ref 28), some (.int x2)]) (st' := [(.int x2), (.ref 41)]) (I1 := I2) (T1 := T2) rfl ?_
        obtain ⟨hg, hq⟩ := hq
        refine ev_iald rfl rfl hg ?_
        refine ev_seq 1 (ip' := 15) (loc' := [some (.ref 36), some (.ref 28), some (.int x2)]) (st' := [(.int (I2 41 x2.toNatClampNeg))]) (I1 := I2) (T1 := T2) rfl ?_
        refine ev_fg [false, false, false] (loc' := [none, none, none]) rfl ?_
        exact s_Search_tiltFor_28_15 (T := T2) hq
    · exact hq.elim
  · exact ⟨by decide, hq⟩
/-- FeltHarness$Search.whoFor(LFeltHarness$Coach;II)I -/
def t_Search_whoFor_28_22 (E : MEnv) (I : II) (T : TT) (Q : QQ) (y0 : Int32) : Prop := Q (.inl (some (.int y0))) I T
theorem s_Search_whoFor_28_22 {E : MEnv} {I : II} {T : TT} {Q : QQ} {y0 : Int32} (hq : t_Search_whoFor_28_22 E I T Q y0) : ev E 230 22 [none, none, none, none] [(.int y0)] I T Q := by
  unfold t_Search_whoFor_28_22 at hq
  exact ev_ret rfl rfl hq
def t_Search_whoFor_28_21 (E : MEnv) (I : II) (T : TT) (Q : QQ) : Prop := t_Search_whoFor_28_22 E I T Q (-1)
theorem s_Search_whoFor_28_21 {E : MEnv} {I : II} {T : TT} {Q : QQ} (hq : t_Search_whoFor_28_21 E I T Q) : ev E 230 21 [none, none, none, none] [] I T Q := by
  unfold t_Search_whoFor_28_21 at hq
  refine ev_seq 1 (ip' := 22) (loc' := [none, none, none, none]) (st' := [(.int (-1))]) (I1 := I) (T1 := T) rfl ?_
  exact s_Search_whoFor_28_22 (T := T) hq
def t_Search_whoFor_28_0 (E : MEnv) (I : II) (T : TT) (Q : QQ) (x2 : Int32) (x3 : Int32) : Prop := ev E 219 0 [some (.ref 36), some (.ref 28), some (.int x2), none, none, none] [] I T (KV (fun I1 T1 => ev E 27 0 [some (.int x2), some (.int 0), some (.int 5)] [] I1 T1 (KI (fun v2 I2 T2 => (v2 = 0 → (t_Search_whoFor_28_21 E I2 T2 Q )) ∧ (¬ (v2 = 0) → (ev E 198 0 [some (.int x3)] [] I2 T2 (KI (fun v3 I3 T3 => (v3 = 0 → (t_Search_whoFor_28_21 E I3 T3 Q )) ∧ (¬ (v3 = 0) → ((¬ ((x2 * 4) + x3) < 0 ∧ ((x2 * 4) + x3).toNatClampNeg < 24) ∧ (t_Search_whoFor_28_22 E I3 T3 Q (I3 39 ((x2 * 4) + x3).toNatClampNeg))))) (fun _ _ _ => False))))) (fun _ _ _ => False))) (fun x I1 T1 => Q (.inr x) I1 T1))
theorem s_Search_whoFor_28_0 {E : MEnv} {I : II} {T : TT} {Q : QQ} {x2 : Int32} {x3 : Int32} (hq : t_Search_whoFor_28_0 E I T Q x2 x3) : ev E 230 0 [some (.ref 36), some (.ref 28), some (.int x2), some (.int x3)] [] I T Q := by
  unfold t_Search_whoFor_28_0 at hq
  refine ev_seq 3 (ip' := 3) (loc' := [some (.ref 36), some (.ref 28), some (.int x2), some (.int x3)]) (st' := [(.int x2), (.ref 28), (.ref 36)]) (I1 := I) (T1 := T) rfl ?_
  refine ev_callV rfl rfl rfl (fun I1 T1 hq => ?_) (fun x I1 T1 hq => ?_) hq
  · refine ev_seq 3 (ip' := 7) (loc' := [some (.ref 36), some (.ref 28), some (.int x2), some (.int x3)]) (st' := [(.int 5), (.int 0), (.int x2)]) (I1 := I1) (T1 := T1) rfl ?_
    refine ev_callI rfl rfl rfl (fun v2 I2 T2 hq => ?_) (fun x I1 T1 hq => ?_) hq
    · refine ev_br (p := v2 = 0) (a := 21) (b := 9) (st' := []) inferInstance rfl rfl (fun hb => ?_) (fun hb => ?_)
      · have hq := hq.1 hb
        refine ev_fg [false, false, false, false] (loc' := [none, none, none, none]) rfl ?_
        exact s_Search_whoFor_28_21 (T := T2) hq
      · have hq := hq.2 hb
        refine ev_seq 1 (ip' := 10) (loc' := [some (.ref 36), some (.ref 28), some (.int x2), some (.int x3)]) (st' := [(.int x3)]) (I1 := I2) (T1 := T2) rfl ?_
        refine ev_callI rfl rfl rfl (fun v3 I3 T3 hq => ?_) (fun x I1 T1 hq => ?_) hq
        · refine ev_br (p := v3 = 0) (a := 21) (b := 12) (st' := []) inferInstance rfl rfl (fun hb => ?_) (fun hb => ?_)
          · have hq := hq.1 hb
            refine ev_fg [false, false, false, false] (loc' := [none, none, none, none]) rfl ?_
            exact s_Search_whoFor_28_21 (T := T3) hq
          · have hq := hq.2 hb
            refine ev_seq 7 (ip' := 19) (loc' := [some (.ref 36), some (.ref 28), some (.int x2), some (.int x3)]) (st' := [(.int ((x2 * 4) + x3)), (.ref 39)]) (I1 := I3) (T1 := T3) rfl ?_
            obtain ⟨hg, hq⟩ := hq
            refine ev_iald rfl rfl hg ?_
            refine ev_seq 1 (ip' := 22) (loc' := [some (.ref 36), some (.ref 28), some (.int x2), some (.int x3)]) (st' := [(.int (I3 39 ((x2 * 4) + x3).toNatClampNeg))]) (I1 := I3) (T1 := T3) rfl ?_
            refine ev_fg [false, false, false, false] (loc' := [none, none, none, none]) rfl ?_
            exact s_Search_whoFor_28_22 (T := T3) hq
        · exact hq.elim
    · exact hq.elim
  · exact ⟨by decide, hq⟩
/-- FeltHarness$Shelf.clear()V -/
def t_Shelf_clear_0 (E : MEnv) (I : II) (T : TT) (Q : QQ) : Prop := Q (.inl none) (m_up (m_up I 32 3 0) 32 4 0) T
theorem s_Shelf_clear_0 {E : MEnv} {I : II} {T : TT} {Q : QQ} (hq : t_Shelf_clear_0 E I T Q) : ev E 55 0 [some (.ref 32)] [] I T Q := by
  unfold t_Shelf_clear_0 at hq
  refine ev_seq 6 (ip' := 6) (loc' := [some (.ref 32)]) (st' := []) (I1 := m_up (m_up I 32 3 0) 32 4 0) (T1 := T) rfl ?_
  exact ev_ret rfl rfl hq
/-- FeltHarness$Shelf.keepImage(LFeltHarness$Coach;)V -/
def t_Shelf_keepImage_28_37 (E : MEnv) (I : II) (T : TT) (Q : QQ) : Prop := Q (.inl none) I T
theorem s_Shelf_keepImage_28_37 {E : MEnv} {I : II} {T : TT} {Q : QQ} (hq : t_Shelf_keepImage_28_37 E I T Q) : ev E 325 37 [none, none, none] [] I T Q := by
  unfold t_Shelf_keepImage_28_37 at hq
  exact ev_ret rfl rfl hq
def t_Shelf_keepImage_28_0 (E : MEnv) (I : II) (T : TT) (Q : QQ) : Prop := (3 ≤ (I 32 4) → (t_Shelf_keepImage_28_37 E I T Q )) ∧ (¬ (3 ≤ (I 32 4)) → ((¬ (0 : Int32) < 0 ∧ ¬ ((I 32 4) * 493) < 0 ∧ ¬ (464 : Int32) < 0 ∧ (0 : Int32).toNatClampNeg + (464 : Int32).toNatClampNeg ≤ 464 ∧ ((I 32 4) * 493).toNatClampNeg + (464 : Int32).toNatClampNeg ≤ 1479) ∧ (ev E 100 0 [some (.ref 28), some (.ref 34), some (.int (((I 32 4) * 493) + 464))] [] (m_row I 34 (va_cpy (I 33) (I 34) 0 ((I 32 4) * 493).toNatClampNeg 464)) T (KV (fun I1 T1 => (¬ (I1 32 4) < 0 ∧ (I1 32 4).toNatClampNeg < 3) ∧ (t_Shelf_keepImage_28_37 E (m_up (m_up I1 35 (I1 32 4).toNatClampNeg (I1 32 3)) 32 4 (((m_up I1 35 (I1 32 4).toNatClampNeg (I1 32 3)) 32 4) + 1)) T1 Q )) (fun x I1 T1 => Q (.inr x) I1 T1)))))
theorem s_Shelf_keepImage_28_0 {E : MEnv} {I : II} {T : TT} {Q : QQ} (hq : t_Shelf_keepImage_28_0 E I T Q) : ev E 325 0 [some (.ref 32), some (.ref 28), none] [] I T Q := by
  unfold t_Shelf_keepImage_28_0 at hq
  refine ev_seq 3 (ip' := 3) (loc' := [some (.ref 32), some (.ref 28), none]) (st' := [(.int 3), (.int (I 32 4))]) (I1 := I) (T1 := T) rfl ?_
  refine ev_br (p := 3 ≤ (I 32 4)) (a := 37) (b := 4) (st' := []) inferInstance rfl rfl (fun hb => ?_) (fun hb => ?_)
  · have hq := hq.1 hb
    refine ev_fg [false, false, true] (loc' := [none, none, none]) rfl ?_
    exact s_Shelf_keepImage_28_37 (T := T) hq
  · have hq := hq.2 hb
    refine ev_seq 12 (ip' := 16) (loc' := [some (.ref 32), some (.ref 28), some (.int ((I 32 4) * 493))]) (st' := [(.int 464), (.int ((I 32 4) * 493)), (.ref 34), (.int 0), (.ref 33)]) (I1 := I) (T1 := T) rfl ?_
    obtain ⟨hg, hq⟩ := hq
    refine ev_cpy (c := 33) (d := 34) rfl rfl rfl hg (by decide) ?_
    refine ev_seq 6 (ip' := 23) (loc' := [some (.ref 32), some (.ref 28), some (.int ((I 32 4) * 493))]) (st' := [(.int (((I 32 4) * 493) + 464)), (.ref 34), (.ref 28)]) (I1 := m_row I 34 (va_cpy (I 33) (I 34) 0 ((I 32 4) * 493).toNatClampNeg 464)) (T1 := T) rfl ?_
    refine ev_callV rfl rfl rfl (fun I1 T1 hq => ?_) (fun x I1 T1 hq => ?_) hq
    · refine ev_seq 6 (ip' := 30) (loc' := [some (.ref 32), some (.ref 28), some (.int ((I 32 4) * 493))]) (st' := [(.int (I1 32 3)), (.int (I1 32 4)), (.ref 35)]) (I1 := I1) (T1 := T1) rfl ?_
      obtain ⟨hg, hq⟩ := hq
      refine ev_iast rfl rfl hg ?_
      refine ev_seq 6 (ip' := 37) (loc' := [some (.ref 32), some (.ref 28), some (.int ((I 32 4) * 493))]) (st' := []) (I1 := m_up (m_up I1 35 (I1 32 4).toNatClampNeg (I1 32 3)) 32 4 (((m_up I1 35 (I1 32 4).toNatClampNeg (I1 32 3)) 32 4) + 1)) (T1 := T1) rfl ?_
      refine ev_fg [false, false, false] (loc' := [none, none, none]) rfl ?_
      exact s_Shelf_keepImage_28_37 (T := T1) hq
    · exact ⟨by decide, hq⟩
/-- FeltHarness$Shelf.keepWork(LFeltHarness$Coach;)V -/
def t_Shelf_keepWork_28_18 (E : MEnv) (I : II) (T : TT) (Q : QQ) : Prop := Q (.inl none) I T
theorem s_Shelf_keepWork_28_18 {E : MEnv} {I : II} {T : TT} {Q : QQ} (hq : t_Shelf_keepWork_28_18 E I T Q) : ev E 99 18 [none, none] [] I T Q := by
  unfold t_Shelf_keepWork_28_18 at hq
  exact ev_ret rfl rfl hq
def t_Shelf_keepWork_28_0 (E : MEnv) (I : II) (T : TT) (Q : QQ) : Prop := (16 ≤ (I 32 3) → (t_Shelf_keepWork_28_18 E I T Q )) ∧ (¬ (16 ≤ (I 32 3)) → (ev E 100 0 [some (.ref 28), some (.ref 33), some (.int ((I 32 3) * 29))] [] I T (KV (fun I1 T1 => t_Shelf_keepWork_28_18 E (m_up I1 32 3 ((I1 32 3) + 1)) T1 Q ) (fun x I1 T1 => Q (.inr x) I1 T1))))
theorem s_Shelf_keepWork_28_0 {E : MEnv} {I : II} {T : TT} {Q : QQ} (hq : t_Shelf_keepWork_28_0 E I T Q) : ev E 99 0 [some (.ref 32), some (.ref 28)] [] I T Q := by
  unfold t_Shelf_keepWork_28_0 at hq
  refine ev_seq 3 (ip' := 3) (loc' := [some (.ref 32), some (.ref 28)]) (st' := [(.int 16), (.int (I 32 3))]) (I1 := I) (T1 := T) rfl ?_
  refine ev_br (p := 16 ≤ (I 32 3)) (a := 18) (b := 4) (st' := []) inferInstance rfl rfl (fun hb => ?_) (fun hb => ?_)
  · have hq := hq.1 hb
    refine ev_fg [false, false] (loc' := [none, none]) rfl ?_
    exact s_Shelf_keepWork_28_18 (T := T) hq
  · have hq := hq.2 hb
    refine ev_seq 7 (ip' := 11) (loc' := [some (.ref 32), some (.ref 28)]) (st' := [(.int ((I 32 3) * 29)), (.ref 33), (.ref 28)]) (I1 := I) (T1 := T) rfl ?_
    refine ev_callV rfl rfl rfl (fun I1 T1 hq => ?_) (fun x I1 T1 hq => ?_) hq
    · refine ev_seq 6 (ip' := 18) (loc' := [some (.ref 32), some (.ref 28)]) (st' := []) (I1 := m_up I1 32 3 ((I1 32 3) + 1)) (T1 := T1) rfl ?_
      refine ev_fg [false, false] (loc' := [none, none]) rfl ?_
      exact s_Shelf_keepWork_28_18 (T := T1) hq
    · exact ⟨by decide, hq⟩
/-- FeltHarness$Shelf.takeImage(LFeltHarness$Coach;)V -/
def t_Shelf_takeImage_28_40 (E : MEnv) (I : II) (T : TT) (Q : QQ) : Prop := Q (.inl none) I T
theorem s_Shelf_takeImage_28_40 {E : MEnv} {I : II} {T : TT} {Q : QQ} (hq : t_Shelf_takeImage_28_40 E I T Q) : ev E 330 40 [none, none, none] [] I T Q := by
  unfold t_Shelf_takeImage_28_40 at hq
  exact ev_ret rfl rfl hq
def t_Shelf_takeImage_28_0 (E : MEnv) (I : II) (T : TT) (Q : QQ) : Prop := ((I 32 4) ≤ 0 → (t_Shelf_takeImage_28_40 E I T Q )) ∧ (¬ ((I 32 4) ≤ 0) → ((3 < (I 32 4) → (t_Shelf_takeImage_28_40 E I T Q )) ∧ (¬ (3 < (I 32 4)) → ((¬ (((m_up I 32 4 ((I 32 4) - 1)) 32 4) * 493) < 0 ∧ ¬ (0 : Int32) < 0 ∧ ¬ (464 : Int32) < 0 ∧ (((m_up I 32 4 ((I 32 4) - 1)) 32 4) * 493).toNatClampNeg + (464 : Int32).toNatClampNeg ≤ 1479 ∧ (0 : Int32).toNatClampNeg + (464 : Int32).toNatClampNeg ≤ 464) ∧ (ev E 178 0 [some (.ref 28), some (.ref 34), some (.int ((((m_up I 32 4 ((I 32 4) - 1)) 32 4) * 493) + 464))] [] (m_row (m_up I 32 4 ((I 32 4) - 1)) 33 (va_cpy ((m_up I 32 4 ((I 32 4) - 1)) 34) ((m_up I 32 4 ((I 32 4) - 1)) 33) (((m_up I 32 4 ((I 32 4) - 1)) 32 4) * 493).toNatClampNeg 0 464)) T (KV (fun I1 T1 => (¬ (I1 32 4) < 0 ∧ (I1 32 4).toNatClampNeg < 3) ∧ (t_Shelf_takeImage_28_40 E (m_up I1 32 3 (I1 35 (I1 32 4).toNatClampNeg)) T1 Q )) (fun x I1 T1 => Q (.inr x) I1 T1)))))))
theorem s_Shelf_takeImage_28_0 {E : MEnv} {I : II} {T : TT} {Q : QQ} (hq : t_Shelf_takeImage_28_0 E I T Q) : ev E 330 0 [some (.ref 32), some (.ref 28), none] [] I T Q := by
  unfold t_Shelf_takeImage_28_0 at hq
  refine ev_seq 2 (ip' := 2) (loc' := [some (.ref 32), some (.ref 28), none]) (st' := [(.int (I 32 4))]) (I1 := I) (T1 := T) rfl ?_
  refine ev_br (p := (I 32 4) ≤ 0) (a := 40) (b := 3) (st' := []) inferInstance rfl rfl (fun hb => ?_) (fun hb => ?_)
  · have hq := hq.1 hb
    refine ev_fg [false, false, true] (loc' := [none, none, none]) rfl ?_
    exact s_Shelf_takeImage_28_40 (T := T) hq
  · have hq := hq.2 hb
    refine ev_seq 3 (ip' := 6) (loc' := [some (.ref 32), some (.ref 28), none]) (st' := [(.int 3), (.int (I 32 4))]) (I1 := I) (T1 := T) rfl ?_
    refine ev_br (p := 3 < (I 32 4)) (a := 40) (b := 7) (st' := []) inferInstance rfl rfl (fun hb => ?_) (fun hb => ?_)
    · have hq := hq.1 hb
      refine ev_fg [false, false, true] (loc' := [none, none, none]) rfl ?_
      exact s_Shelf_takeImage_28_40 (T := T) hq
    · have hq := hq.2 hb
      refine ev_seq 18 (ip' := 25) (loc' := [some (.ref 32), some (.ref 28), some (.int (((m_up I 32 4 ((I 32 4) - 1)) 32 4) * 493))]) (st' := [(.int 464), (.int 0), (.ref 33), (.int (((m_up I 32 4 ((I 32 4) - 1)) 32 4) * 493)), (.ref 34)]) (I1 := m_up I 32 4 ((I 32 4) - 1)) (T1 := T) rfl ?_
      obtain ⟨hg, hq⟩ := hq
      refine ev_cpy (c := 34) (d := 33) rfl rfl rfl hg (by decide) ?_
      refine ev_seq 6 (ip' := 32) (loc' := [some (.ref 32), some (.ref 28), some (.int (((m_up I 32 4 ((I 32 4) - 1)) 32 4) * 493))]) (st' := [(.int ((((m_up I 32 4 ((I 32 4) - 1)) 32 4) * 493) + 464)), (.ref 34), (.ref 28)]) (I1 := m_row (m_up I 32 4 ((I 32 4) - 1)) 33 (va_cpy ((m_up I 32 4 ((I 32 4) - 1)) 34) ((m_up I 32 4 ((I 32 4) - 1)) 33) (((m_up I 32 4 ((I 32 4) - 1)) 32 4) * 493).toNatClampNeg 0 464)) (T1 := T) rfl ?_
      refine ev_callV rfl rfl rfl (fun I1 T1 hq => ?_) (fun x I1 T1 hq => ?_) hq
      · refine ev_seq 5 (ip' := 38) (loc' := [some (.ref 32), some (.ref 28), some (.int (((m_up I 32 4 ((I 32 4) - 1)) 32 4) * 493))]) (st' := [(.int (I1 32 4)), (.ref 35), (.ref 32)]) (I1 := I1) (T1 := T1) rfl ?_
        obtain ⟨hg, hq⟩ := hq
        refine ev_iald rfl rfl hg ?_
        refine ev_seq 1 (ip' := 40) (loc' := [some (.ref 32), some (.ref 28), some (.int (((m_up I 32 4 ((I 32 4) - 1)) 32 4) * 493))]) (st' := []) (I1 := m_up I1 32 3 (I1 35 (I1 32 4).toNatClampNeg)) (T1 := T1) rfl ?_
        refine ev_fg [false, false, false] (loc' := [none, none, none]) rfl ?_
        exact s_Shelf_takeImage_28_40 (T := T1) hq
      · exact ⟨by decide, hq⟩
/-- FeltHarness$Shelf.takeWork(LFeltHarness$Coach;)V -/
def t_Shelf_takeWork_28_17 (E : MEnv) (I : II) (T : TT) (Q : QQ) : Prop := Q (.inl none) I T
theorem s_Shelf_takeWork_28_17 {E : MEnv} {I : II} {T : TT} {Q : QQ} (hq : t_Shelf_takeWork_28_17 E I T Q) : ev E 177 17 [none, none] [] I T Q := by
  unfold t_Shelf_takeWork_28_17 at hq
  exact ev_ret rfl rfl hq
def t_Shelf_takeWork_28_0 (E : MEnv) (I : II) (T : TT) (Q : QQ) : Prop := ((I 32 3) ≤ 0 → (t_Shelf_takeWork_28_17 E I T Q )) ∧ (¬ ((I 32 3) ≤ 0) → (ev E 178 0 [some (.ref 28), some (.ref 33), some (.int (((m_up I 32 3 ((I 32 3) - 1)) 32 3) * 29))] [] (m_up I 32 3 ((I 32 3) - 1)) T (KV (fun I1 T1 => t_Shelf_takeWork_28_17 E I1 T1 Q ) (fun x I1 T1 => Q (.inr x) I1 T1))))
theorem s_Shelf_takeWork_28_0 {E : MEnv} {I : II} {T : TT} {Q : QQ} (hq : t_Shelf_takeWork_28_0 E I T Q) : ev E 177 0 [some (.ref 32), some (.ref 28)] [] I T Q := by
  unfold t_Shelf_takeWork_28_0 at hq
  refine ev_seq 2 (ip' := 2) (loc' := [some (.ref 32), some (.ref 28)]) (st' := [(.int (I 32 3))]) (I1 := I) (T1 := T) rfl ?_
  refine ev_br (p := (I 32 3) ≤ 0) (a := 17) (b := 3) (st' := []) inferInstance rfl rfl (fun hb => ?_) (fun hb => ?_)
  · have hq := hq.1 hb
    refine ev_fg [false, false] (loc' := [none, none]) rfl ?_
    exact s_Shelf_takeWork_28_17 (T := T) hq
  · have hq := hq.2 hb
    refine ev_seq 13 (ip' := 16) (loc' := [some (.ref 32), some (.ref 28)]) (st' := [(.int (((m_up I 32 3 ((I 32 3) - 1)) 32 3) * 29)), (.ref 33), (.ref 28)]) (I1 := m_up I 32 3 ((I 32 3) - 1)) (T1 := T) rfl ?_
    refine ev_callV rfl rfl rfl (fun I1 T1 hq => ?_) (fun x I1 T1 hq => ?_) hq
    · refine ev_fg [false, false] (loc' := [none, none]) rfl ?_
      exact s_Shelf_takeWork_28_17 (T := T1) hq
    · exact ⟨by decide, hq⟩
/-- FeltHarness$Stable.boxOf(I)I -/
def t_Stable_boxOf_11 (E : MEnv) (I : II) (T : TT) (Q : QQ) (y0 : Int32) : Prop := Q (.inl (some (.int y0))) I T
theorem s_Stable_boxOf_11 {E : MEnv} {I : II} {T : TT} {Q : QQ} {y0 : Int32} (hq : t_Stable_boxOf_11 E I T Q y0) : ev E 241 11 [none, none] [(.int y0)] I T Q := by
  unfold t_Stable_boxOf_11 at hq
  exact ev_ret rfl rfl hq
def t_Stable_boxOf_10 (E : MEnv) (I : II) (T : TT) (Q : QQ) : Prop := t_Stable_boxOf_11 E I T Q (-1)
theorem s_Stable_boxOf_10 {E : MEnv} {I : II} {T : TT} {Q : QQ} (hq : t_Stable_boxOf_10 E I T Q) : ev E 241 10 [none, none] [] I T Q := by
  unfold t_Stable_boxOf_10 at hq
  refine ev_seq 1 (ip' := 11) (loc' := [none, none]) (st' := [(.int (-1))]) (I1 := I) (T1 := T) rfl ?_
  exact s_Stable_boxOf_11 (T := T) hq
def t_Stable_boxOf_0 (E : MEnv) (I : II) (T : TT) (Q : QQ) (x1 : Int32) : Prop := (x1 < 0 → (t_Stable_boxOf_10 E I T Q )) ∧ (¬ (x1 < 0) → ((8 ≤ x1 → (t_Stable_boxOf_10 E I T Q )) ∧ (¬ (8 ≤ x1) → ((¬ x1 < 0 ∧ x1.toNatClampNeg < 8) ∧ (t_Stable_boxOf_11 E I T Q (I 43 x1.toNatClampNeg))))))
theorem s_Stable_boxOf_0 {E : MEnv} {I : II} {T : TT} {Q : QQ} {x1 : Int32} (hq : t_Stable_boxOf_0 E I T Q x1) : ev E 241 0 [some (.ref 42), some (.int x1)] [] I T Q := by
  unfold t_Stable_boxOf_0 at hq
  refine ev_seq 1 (ip' := 1) (loc' := [some (.ref 42), some (.int x1)]) (st' := [(.int x1)]) (I1 := I) (T1 := T) rfl ?_
  refine ev_br (p := x1 < 0) (a := 10) (b := 2) (st' := []) inferInstance rfl rfl (fun hb => ?_) (fun hb => ?_)
  · have hq := hq.1 hb
    refine ev_fg [false, false] (loc' := [none, none]) rfl ?_
    exact s_Stable_boxOf_10 (T := T) hq
  · have hq := hq.2 hb
    refine ev_seq 2 (ip' := 4) (loc' := [some (.ref 42), some (.int x1)]) (st' := [(.int 8), (.int x1)]) (I1 := I) (T1 := T) rfl ?_
    refine ev_br (p := 8 ≤ x1) (a := 10) (b := 5) (st' := []) inferInstance rfl rfl (fun hb => ?_) (fun hb => ?_)
    · have hq := hq.1 hb
      refine ev_fg [false, false] (loc' := [none, none]) rfl ?_
      exact s_Stable_boxOf_10 (T := T) hq
    · have hq := hq.2 hb
      refine ev_seq 3 (ip' := 8) (loc' := [some (.ref 42), some (.int x1)]) (st' := [(.int x1), (.ref 43)]) (I1 := I) (T1 := T) rfl ?_
      obtain ⟨hg, hq⟩ := hq
      refine ev_iald rfl rfl hg ?_
      refine ev_seq 1 (ip' := 11) (loc' := [some (.ref 42), some (.int x1)]) (st' := [(.int (I 43 x1.toNatClampNeg))]) (I1 := I) (T1 := T) rfl ?_
      refine ev_fg [false, false] (loc' := [none, none]) rfl ?_
      exact s_Stable_boxOf_11 (T := T) hq
/-- FeltHarness$Stable.canFillFrom(LFeltHarness$House;III)Z -/
def t_Stable_canFillFrom_3_42 (d9 : Nat) (X9 : Nat × (Nat → Int32)) (I : II) (T : TT) (Q : QQ) : Prop := Q (.inl (some (.int 0))) I T
theorem s_Stable_canFillFrom_3_42 {d9 : Nat} {X9 : Nat × (Nat → Int32)} {I : II} {T : TT} {Q : QQ} (hq : t_Stable_canFillFrom_3_42 d9 X9 I T Q) : ev (d9 + 1, X9) 234 42 [none, none, none, none, none, none] [] I T Q := by
  unfold t_Stable_canFillFrom_3_42 at hq
  refine ev_seq 1 (ip' := 43) (loc' := [none, none, none, none, none, none]) (st' := [(.int 0)]) (I1 := I) (T1 := T) rfl ?_
  exact ev_ret rfl rfl hq
def t_Stable_canFillFrom_3_40 (d9 : Nat) (X9 : Nat × (Nat → Int32)) (I : II) (T : TT) (Q : QQ) (x2 : Int32) (x3 : Int32) (x4 : Int32) (x5 : Int32) : Prop := ev (d9 + 1, X9) 234 8 [some (.ref 42), some (.ref 3), some (.int x2), some (.int x3), some (.int x4), some (.int (x5 + 1))] [] I T Q
theorem s_Stable_canFillFrom_3_40 {d9 : Nat} {X9 : Nat × (Nat → Int32)} {I : II} {T : TT} {Q : QQ} {x2 : Int32} {x3 : Int32} {x4 : Int32} {x5 : Int32} (hq : t_Stable_canFillFrom_3_40 d9 X9 I T Q x2 x3 x4 x5) : ev (d9 + 1, X9) 234 40 [some (.ref 42), some (.ref 3), some (.int x2), some (.int x3), some (.int x4), some (.int x5)] [] I T Q := by
  unfold t_Stable_canFillFrom_3_40 at hq
  refine ev_seq 2 (ip' := 8) (loc' := [some (.ref 42), some (.ref 3), some (.int x2), some (.int x3), some (.int x4), some (.int (x5 + 1))]) (st' := []) (I1 := I) (T1 := T) rfl ?_
  exact hq
def t_Stable_canFillFrom_3_8 (d9 : Nat) (X9 : Nat × (Nat → Int32)) (I : II) (T : TT) (Q : QQ) (x2 : Int32) (x3 : Int32) (x4 : Int32) (x5 : Int32) : Prop := (x3 ≤ x5 → (t_Stable_canFillFrom_3_42 d9 X9 I T Q )) ∧ (¬ (x3 ≤ x5) → ((x4 < x5 → (t_Stable_canFillFrom_3_42 d9 X9 I T Q )) ∧ (¬ (x4 < x5) → (ev (d9 + 1, X9) 235 0 [some (.ref 42), some (.ref 3), some (.int x2), some (.int x5), none] [] I T (KI (fun v1 I1 T1 => (v1 = 0 → (t_Stable_canFillFrom_3_40 d9 X9 I1 T1 Q x2 x3 x4 x5)) ∧ (¬ (v1 = 0) → ((¬ x2 < 0 ∧ x2.toNatClampNeg < 8) ∧ (ev (d9, X9) 234 0 [some (.ref 42), some (.ref 3), some (.int (x2 + 1)), some (.int x3), some (.int (if x4 < (x5 + 1) then (x5 + 1) else x4)), none] [] (m_up I1 43 x2.toNatClampNeg x5) T1 (KI (fun v2 I2 T2 => (v2 = 0 → (t_Stable_canFillFrom_3_40 d9 X9 I2 T2 Q x2 x3 x4 x5)) ∧ (¬ (v2 = 0) → (Q (.inl (some (.int 1))) I2 T2))) (fun x I1 T1 => Q (.inr x) I1 T1)))))) (fun x I1 T1 => Q (.inr x) I1 T1))))))
theorem s_Stable_canFillFrom_3_8 {d9 : Nat} {X9 : Nat × (Nat → Int32)} {I : II} {T : TT} {Q : QQ} {x2 : Int32} {x3 : Int32} {x4 : Int32} {x5 : Int32} (hq : t_Stable_canFillFrom_3_8 d9 X9 I T Q x2 x3 x4 x5) : ev (d9 + 1, X9) 234 8 [some (.ref 42), some (.ref 3), some (.int x2), some (.int x3), some (.int x4), some (.int x5)] [] I T Q := by
  unfold t_Stable_canFillFrom_3_8 at hq
  refine ev_seq 2 (ip' := 10) (loc' := [some (.ref 42), some (.ref 3), some (.int x2), some (.int x3), some (.int x4), some (.int x5)]) (st' := [(.int x3), (.int x5)]) (I1 := I) (T1 := T) rfl ?_
  refine ev_br (p := x3 ≤ x5) (a := 42) (b := 11) (st' := []) inferInstance rfl rfl (fun hb => ?_) (fun hb => ?_)
  · have hq := hq.1 hb
    refine ev_fg [false, false, false, false, false, false] (loc' := [none, none, none, none, none, none]) rfl ?_
    exact s_Stable_canFillFrom_3_42 (T := T) hq
  · have hq := hq.2 hb
    refine ev_seq 2 (ip' := 13) (loc' := [some (.ref 42), some (.ref 3), some (.int x2), some (.int x3), some (.int x4), some (.int x5)]) (st' := [(.int x4), (.int x5)]) (I1 := I) (T1 := T) rfl ?_
    refine ev_br (p := x4 < x5) (a := 42) (b := 14) (st' := []) inferInstance rfl rfl (fun hb => ?_) (fun hb => ?_)
    · have hq := hq.1 hb
      refine ev_fg [false, false, false, false, false, false] (loc' := [none, none, none, none, none, none]) rfl ?_
      exact s_Stable_canFillFrom_3_42 (T := T) hq
    · have hq := hq.2 hb
      refine ev_seq 4 (ip' := 18) (loc' := [some (.ref 42), some (.ref 3), some (.int x2), some (.int x3), some (.int x4), some (.int x5)]) (st' := [(.int x5), (.int x2), (.ref 3), (.ref 42)]) (I1 := I) (T1 := T) rfl ?_
      refine ev_callI rfl rfl rfl (fun v1 I1 T1 hq => ?_) (fun x I1 T1 hq => ?_) hq
      · refine ev_br (p := v1 = 0) (a := 40) (b := 20) (st' := []) inferInstance rfl rfl (fun hb => ?_) (fun hb => ?_)
        · have hq := hq.1 hb
          exact s_Stable_canFillFrom_3_40 (T := T1) hq
        · have hq := hq.2 hb
          refine ev_seq 4 (ip' := 24) (loc' := [some (.ref 42), some (.ref 3), some (.int x2), some (.int x3), some (.int x4), some (.int x5)]) (st' := [(.int x5), (.int x2), (.ref 43)]) (I1 := I1) (T1 := T1) rfl ?_
          obtain ⟨hg, hq⟩ := hq
          refine ev_iast rfl rfl hg ?_
          refine ev_seq 11 (ip' := 36) (loc' := [some (.ref 42), some (.ref 3), some (.int x2), some (.int x3), some (.int x4), some (.int x5)]) (st' := [(.int (if x4 < (x5 + 1) then (x5 + 1) else x4)), (.int x3), (.int (x2 + 1)), (.ref 3), (.ref 42)]) (I1 := m_up I1 43 x2.toNatClampNeg x5) (T1 := T1) rfl ?_
          refine ev_callI rfl rfl rfl (fun v2 I2 T2 hq => ?_) (fun x I1 T1 hq => ?_) hq
          · refine ev_br (p := v2 = 0) (a := 40) (b := 38) (st' := []) inferInstance rfl rfl (fun hb => ?_) (fun hb => ?_)
            · have hq := hq.1 hb
              exact s_Stable_canFillFrom_3_40 (T := T2) hq
            · have hq := hq.2 hb
              refine ev_seq 1 (ip' := 39) (loc' := [some (.ref 42), some (.ref 3), some (.int x2), some (.int x3), some (.int x4), some (.int x5)]) (st' := [(.int 1)]) (I1 := I2) (T1 := T2) rfl ?_
              exact ev_ret rfl rfl hq
          · exact ⟨by decide, hq⟩
      · exact ⟨by decide, hq⟩
def t_Stable_canFillFrom_3_0 (d9 : Nat) (X9 : Nat × (Nat → Int32)) (I : II) (T : TT) (Q : QQ) (x2 : Int32) (x3 : Int32) (x4 : Int32) : Prop := ev (d9 + 1, X9) 107 0 [some (.ref 3), some (.int x2)] [] I T (KI (fun v1 I1 T1 => (v1 = 0 → (Q (.inl (some (.int 1))) I1 T1)) ∧ (¬ (v1 = 0) → (t_Stable_canFillFrom_3_8 d9 X9 I1 T1 Q x2 x3 x4 0))) (fun x I1 T1 => Q (.inr x) I1 T1))
theorem s_Stable_canFillFrom_3_0 {d9 : Nat} {X9 : Nat × (Nat → Int32)} {I : II} {T : TT} {Q : QQ} {x2 : Int32} {x3 : Int32} {x4 : Int32} (hq : t_Stable_canFillFrom_3_0 d9 X9 I T Q x2 x3 x4) : ev (d9 + 1, X9) 234 0 [some (.ref 42), some (.ref 3), some (.int x2), some (.int x3), some (.int x4), none] [] I T Q := by
  unfold t_Stable_canFillFrom_3_0 at hq
  refine ev_seq 2 (ip' := 2) (loc' := [some (.ref 42), some (.ref 3), some (.int x2), some (.int x3), some (.int x4), none]) (st' := [(.int x2), (.ref 3)]) (I1 := I) (T1 := T) rfl ?_
  refine ev_callI rfl rfl rfl (fun v1 I1 T1 hq => ?_) (fun x I1 T1 hq => ?_) hq
  · refine ev_br (p := v1 = 0) (a := 4) (b := 6) (st' := []) inferInstance rfl rfl (fun hb => ?_) (fun hb => ?_)
    · have hq := hq.1 hb
      refine ev_seq 1 (ip' := 5) (loc' := [some (.ref 42), some (.ref 3), some (.int x2), some (.int x3), some (.int x4), none]) (st' := [(.int 1)]) (I1 := I1) (T1 := T1) rfl ?_
      exact ev_ret rfl rfl hq
    · have hq := hq.2 hb
      refine ev_seq 2 (ip' := 8) (loc' := [some (.ref 42), some (.ref 3), some (.int x2), some (.int x3), some (.int x4), some (.int 0)]) (st' := []) (I1 := I1) (T1 := T1) rfl ?_
      exact s_Stable_canFillFrom_3_8 (T := T1) hq
  · exact ⟨by decide, hq⟩
/-- FeltHarness$Stable.fill(LFeltHarness$House;)I -/
def t_Stable_fill_3_2 (E : MEnv) (I : II) (T : TT) (Q : QQ) (x2 : Int32) : Prop := (8 < x2 → (Q (.inl (some (.int 8))) I T)) ∧ (¬ (8 < x2) → (ev E 234 0 [some (.ref 42), some (.ref 3), some (.int 0), some (.int x2), some (.int 0), none] [] I T (KI (fun v1 I1 T1 => (v1 = 0 → (ev E 233 2 [some (.ref 42), some (.ref 3), some (.int (x2 + 1))] [] I1 T1 Q)) ∧ (¬ (v1 = 0) → (Q (.inl (some (.int x2))) I1 T1))) (fun x I1 T1 => Q (.inr x) I1 T1))))
theorem s_Stable_fill_3_2 {E : MEnv} {I : II} {T : TT} {Q : QQ} {x2 : Int32} (hq : t_Stable_fill_3_2 E I T Q x2) : ev E 233 2 [some (.ref 42), some (.ref 3), some (.int x2)] [] I T Q := by
  unfold t_Stable_fill_3_2 at hq
  refine ev_seq 2 (ip' := 4) (loc' := [some (.ref 42), some (.ref 3), some (.int x2)]) (st' := [(.int 8), (.int x2)]) (I1 := I) (T1 := T) rfl ?_
  refine ev_br (p := 8 < x2) (a := 16) (b := 5) (st' := []) inferInstance rfl rfl (fun hb => ?_) (fun hb => ?_)
  · have hq := hq.1 hb
    refine ev_seq 1 (ip' := 17) (loc' := [some (.ref 42), some (.ref 3), some (.int x2)]) (st' := [(.int 8)]) (I1 := I) (T1 := T) rfl ?_
    exact ev_ret rfl rfl hq
  · have hq := hq.2 hb
    refine ev_seq 5 (ip' := 10) (loc' := [some (.ref 42), some (.ref 3), some (.int x2)]) (st' := [(.int 0), (.int x2), (.int 0), (.ref 3), (.ref 42)]) (I1 := I) (T1 := T) rfl ?_
    refine ev_callI rfl rfl rfl (fun v1 I1 T1 hq => ?_) (fun x I1 T1 hq => ?_) hq
    · refine ev_br (p := v1 = 0) (a := 14) (b := 12) (st' := []) inferInstance rfl rfl (fun hb => ?_) (fun hb => ?_)
      · have hq := hq.1 hb
        refine ev_seq 2 (ip' := 2) (loc' := [some (.ref 42), some (.ref 3), some (.int (x2 + 1))]) (st' := []) (I1 := I1) (T1 := T1) rfl ?_
        exact hq
      · have hq := hq.2 hb
        refine ev_seq 1 (ip' := 13) (loc' := [some (.ref 42), some (.ref 3), some (.int x2)]) (st' := [(.int x2)]) (I1 := I1) (T1 := T1) rfl ?_
        exact ev_ret rfl rfl hq
    · exact ⟨by decide, hq⟩
def t_Stable_fill_3_0 (E : MEnv) (I : II) (T : TT) (Q : QQ) : Prop := t_Stable_fill_3_2 E I T Q 0
theorem s_Stable_fill_3_0 {E : MEnv} {I : II} {T : TT} {Q : QQ} (hq : t_Stable_fill_3_0 E I T Q) : ev E 233 0 [some (.ref 42), some (.ref 3), none] [] I T Q := by
  unfold t_Stable_fill_3_0 at hq
  refine ev_seq 2 (ip' := 2) (loc' := [some (.ref 42), some (.ref 3), some (.int 0)]) (st' := []) (I1 := I) (T1 := T) rfl ?_
  exact s_Stable_fill_3_2 (T := T) hq
/-- FeltHarness$Stable.isPeaceful(LFeltHarness$House;II)Z -/
def t_Stable_isPeaceful_3_27 (E : MEnv) (I : II) (T : TT) (Q : QQ) : Prop := Q (.inl (some (.int 1))) I T
theorem s_Stable_isPeaceful_3_27 {E : MEnv} {I : II} {T : TT} {Q : QQ} (hq : t_Stable_isPeaceful_3_27 E I T Q) : ev E 235 27 [none, none, none, none, none] [] I T Q := by
  unfold t_Stable_isPeaceful_3_27 at hq
  refine ev_seq 1 (ip' := 28) (loc' := [none, none, none, none, none]) (st' := [(.int 1)]) (I1 := I) (T1 := T) rfl ?_
  exact ev_ret rfl rfl hq
def t_Stable_isPeaceful_3_25 (E : MEnv) (I : II) (T : TT) (Q : QQ) (x2 : Int32) (x3 : Int32) (x4 : Int32) : Prop := ev E 235 2 [some (.ref 42), some (.ref 3), some (.int x2), some (.int x3), some (.int (x4 + 1))] [] I T Q
theorem s_Stable_isPeaceful_3_25 {E : MEnv} {I : II} {T : TT} {Q : QQ} {x2 : Int32} {x3 : Int32} {x4 : Int32} (hq : t_Stable_isPeaceful_3_25 E I T Q x2 x3 x4) : ev E 235 25 [some (.ref 42), some (.ref 3), some (.int x2), some (.int x3), some (.int x4)] [] I T Q := by
  unfold t_Stable_isPeaceful_3_25 at hq
  refine ev_seq 2 (ip' := 2) (loc' := [some (.ref 42), some (.ref 3), some (.int x2), some (.int x3), some (.int (x4 + 1))]) (st' := []) (I1 := I) (T1 := T) rfl ?_
  exact hq
def t_Stable_isPeaceful_3_2 (E : MEnv) (I : II) (T : TT) (Q : QQ) (x2 : Int32) (x3 : Int32) (x4 : Int32) : Prop := (x2 ≤ x4 → (t_Stable_isPeaceful_3_27 E I T Q )) ∧ (¬ (x2 ≤ x4) → ((8 ≤ x4 → (t_Stable_isPeaceful_3_27 E I T Q )) ∧ (¬ (8 ≤ x4) → ((¬ x4 < 0 ∧ x4.toNatClampNeg < 8) ∧ (((I 43 x4.toNatClampNeg) = x3 → (ev E 111 0 [some (.ref 3), some (.int x2)] [] I T (KI (fun v1 I1 T1 => (((v1 >>> (x4 &&& 31)) &&& 1) = 1 → (Q (.inl (some (.int 0))) I1 T1)) ∧ (¬ (((v1 >>> (x4 &&& 31)) &&& 1) = 1) → (t_Stable_isPeaceful_3_25 E I1 T1 Q x2 x3 x4))) (fun x I1 T1 => Q (.inr x) I1 T1)))) ∧ (¬ ((I 43 x4.toNatClampNeg) = x3) → (t_Stable_isPeaceful_3_25 E I T Q x2 x3 x4)))))))
theorem s_Stable_isPeaceful_3_2 {E : MEnv} {I : II} {T : TT} {Q : QQ} {x2 : Int32} {x3 : Int32} {x4 : Int32} (hq : t_Stable_isPeaceful_3_2 E I T Q x2 x3 x4) : ev E 235 2 [some (.ref 42), some (.ref 3), some (.int x2), some (.int x3), some (.int x4)] [] I T Q := by
  unfold t_Stable_isPeaceful_3_2 at hq
  refine ev_seq 2 (ip' := 4) (loc' := [some (.ref 42), some (.ref 3), some (.int x2), some (.int x3), some (.int x4)]) (st' := [(.int x2), (.int x4)]) (I1 := I) (T1 := T) rfl ?_
  refine ev_br (p := x2 ≤ x4) (a := 27) (b := 5) (st' := []) inferInstance rfl rfl (fun hb => ?_) (fun hb => ?_)
  · have hq := hq.1 hb
    refine ev_fg [false, false, false, false, false] (loc' := [none, none, none, none, none]) rfl ?_
    exact s_Stable_isPeaceful_3_27 (T := T) hq
  · have hq := hq.2 hb
    refine ev_seq 2 (ip' := 7) (loc' := [some (.ref 42), some (.ref 3), some (.int x2), some (.int x3), some (.int x4)]) (st' := [(.int 8), (.int x4)]) (I1 := I) (T1 := T) rfl ?_
    refine ev_br (p := 8 ≤ x4) (a := 27) (b := 8) (st' := []) inferInstance rfl rfl (fun hb => ?_) (fun hb => ?_)
    · have hq := hq.1 hb
      refine ev_fg [false, false, false, false, false] (loc' := [none, none, none, none, none]) rfl ?_
      exact s_Stable_isPeaceful_3_27 (T := T) hq
    · have hq := hq.2 hb
      refine ev_seq 3 (ip' := 11) (loc' := [some (.ref 42), some (.ref 3), some (.int x2), some (.int x3), some (.int x4)]) (st' := [(.int x4), (.ref 43)]) (I1 := I) (T1 := T) rfl ?_
      obtain ⟨hg, hq⟩ := hq
      refine ev_iald rfl rfl hg ?_
      refine ev_seq 1 (ip' := 13) (loc' := [some (.ref 42), some (.ref 3), some (.int x2), some (.int x3), some (.int x4)]) (st' := [(.int x3), (.int (I 43 x4.toNatClampNeg))]) (I1 := I) (T1 := T) rfl ?_
      refine ev_br (p := (I 43 x4.toNatClampNeg) = x3) (a := 14) (b := 25) (st' := []) inferInstance rfl rfl (fun hb => ?_) (fun hb => ?_)
      · have hq := hq.1 hb
        refine ev_seq 2 (ip' := 16) (loc' := [some (.ref 42), some (.ref 3), some (.int x2), some (.int x3), some (.int x4)]) (st' := [(.int x2), (.ref 3)]) (I1 := I) (T1 := T) rfl ?_
        refine ev_callI rfl rfl rfl (fun v1 I1 T1 hq => ?_) (fun x I1 T1 hq => ?_) hq
        · refine ev_seq 5 (ip' := 22) (loc' := [some (.ref 42), some (.ref 3), some (.int x2), some (.int x3), some (.int x4)]) (st' := [(.int 1), (.int ((v1 >>> (x4 &&& 31)) &&& 1))]) (I1 := I1) (T1 := T1) rfl ?_
          refine ev_br (p := ((v1 >>> (x4 &&& 31)) &&& 1) = 1) (a := 23) (b := 25) (st' := []) inferInstance rfl rfl (fun hb => ?_) (fun hb => ?_)
          · have hq := hq.1 hb
            refine ev_seq 1 (ip' := 24) (loc' := [some (.ref 42), some (.ref 3), some (.int x2), some (.int x3), some (.int x4)]) (st' := [(.int 0)]) (I1 := I1) (T1 := T1) rfl ?_
            exact ev_ret rfl rfl hq
          · have hq := hq.2 hb
            exact s_Stable_isPeaceful_3_25 (T := T1) hq
        · exact ⟨by decide, hq⟩
      · have hq := hq.2 hb
        exact s_Stable_isPeaceful_3_25 (T := T) hq
def t_Stable_isPeaceful_3_0 (E : MEnv) (I : II) (T : TT) (Q : QQ) (x2 : Int32) (x3 : Int32) : Prop := t_Stable_isPeaceful_3_2 E I T Q x2 x3 0
theorem s_Stable_isPeaceful_3_0 {E : MEnv} {I : II} {T : TT} {Q : QQ} {x2 : Int32} {x3 : Int32} (hq : t_Stable_isPeaceful_3_0 E I T Q x2 x3) : ev E 235 0 [some (.ref 42), some (.ref 3), some (.int x2), some (.int x3), none] [] I T Q := by
  unfold t_Stable_isPeaceful_3_0 at hq
  refine ev_seq 2 (ip' := 2) (loc' := [some (.ref 42), some (.ref 3), some (.int x2), some (.int x3), some (.int 0)]) (st' := []) (I1 := I) (T1 := T) rfl ?_
  exact s_Stable_isPeaceful_3_2 (T := T) hq
/-- java/lang/String.charAt(I)C -/
def t_Str_charAt_1000003_0 (E : MEnv) (I : II) (T : TT) (Q : QQ) (x1 : Int32) : Prop := ev E 40 0 [some (.ref 1000003)] [] I T (KI (fun v1 I1 T1 => (v1 = 0 → False) ∧ (¬ (v1 = 0) → (ev E 41 0 [some (.ref 1000103), some (.int x1)] [] I1 T1 (KI (fun v2 I2 T2 => ((v2.toUInt32 % 65536).toInt32 = v2) ∧ Q (.inl (some (.int v2))) I2 T2) (fun _ _ _ => False))))) (fun x I1 T1 => Q (.inr x) I1 T1))
theorem s_Str_charAt_1000003_0 {E : MEnv} {I : II} {T : TT} {Q : QQ} {x1 : Int32} (hq : t_Str_charAt_1000003_0 E I T Q x1) : ev E 39 0 [some (.ref 1000003), some (.int x1)] [] I T Q := by
  unfold t_Str_charAt_1000003_0 at hq
  refine ev_seq 1 (ip' := 1) (loc' := [some (.ref 1000003), some (.int x1)]) (st' := [(.ref 1000003)]) (I1 := I) (T1 := T) rfl ?_
  refine ev_callI rfl rfl rfl (fun v1 I1 T1 hq => ?_) (fun x I1 T1 hq => ?_) hq
  · refine ev_br (p := v1 = 0) (a := 8) (b := 3) (st' := []) inferInstance rfl rfl (fun hb => ?_) (fun hb => ?_)
    · have hq := hq.1 hb
      refine ev_seq 3 (ip' := 11) (loc' := [some (.ref 1000003), some (.int x1)]) (st' := [(.int x1), (.ref 1000103)]) (I1 := I1) (T1 := T1) rfl ?_
      exact hq.elim
    · have hq := hq.2 hb
      refine ev_seq 3 (ip' := 6) (loc' := [some (.ref 1000003), some (.int x1)]) (st' := [(.int x1), (.ref 1000103)]) (I1 := I1) (T1 := T1) rfl ?_
      refine ev_callI rfl rfl rfl (fun v2 I2 T2 hq => ?_) (fun x I1 T1 hq => ?_) hq
      · exact ev_ret rfl (ev_rcc rfl hq.1) hq.2
      · exact hq.elim
  · exact ⟨by decide, hq⟩
/-- java/lang/String.charAt(I)C -/
def t_Str_charAt_1000004_0 (E : MEnv) (I : II) (T : TT) (Q : QQ) (x1 : Int32) : Prop := ev E 40 0 [some (.ref 1000004)] [] I T (KI (fun v1 I1 T1 => (v1 = 0 → False) ∧ (¬ (v1 = 0) → (ev E 41 0 [some (.ref 1000104), some (.int x1)] [] I1 T1 (KI (fun v2 I2 T2 => ((v2.toUInt32 % 65536).toInt32 = v2) ∧ Q (.inl (some (.int v2))) I2 T2) (fun _ _ _ => False))))) (fun x I1 T1 => Q (.inr x) I1 T1))
theorem s_Str_charAt_1000004_0 {E : MEnv} {I : II} {T : TT} {Q : QQ} {x1 : Int32} (hq : t_Str_charAt_1000004_0 E I T Q x1) : ev E 39 0 [some (.ref 1000004), some (.int x1)] [] I T Q := by
  unfold t_Str_charAt_1000004_0 at hq
  refine ev_seq 1 (ip' := 1) (loc' := [some (.ref 1000004), some (.int x1)]) (st' := [(.ref 1000004)]) (I1 := I) (T1 := T) rfl ?_
  refine ev_callI rfl rfl rfl (fun v1 I1 T1 hq => ?_) (fun x I1 T1 hq => ?_) hq
  · refine ev_br (p := v1 = 0) (a := 8) (b := 3) (st' := []) inferInstance rfl rfl (fun hb => ?_) (fun hb => ?_)
    · have hq := hq.1 hb
      refine ev_seq 3 (ip' := 11) (loc' := [some (.ref 1000004), some (.int x1)]) (st' := [(.int x1), (.ref 1000104)]) (I1 := I1) (T1 := T1) rfl ?_
      exact hq.elim
    · have hq := hq.2 hb
      refine ev_seq 3 (ip' := 6) (loc' := [some (.ref 1000004), some (.int x1)]) (st' := [(.int x1), (.ref 1000104)]) (I1 := I1) (T1 := T1) rfl ?_
      refine ev_callI rfl rfl rfl (fun v2 I2 T2 hq => ?_) (fun x I1 T1 hq => ?_) hq
      · exact ev_ret rfl (ev_rcc rfl hq.1) hq.2
      · exact hq.elim
  · exact ⟨by decide, hq⟩
/-- java/lang/String.charAt(I)C -/
def t_Str_charAt_1000005_0 (E : MEnv) (I : II) (T : TT) (Q : QQ) (x1 : Int32) : Prop := ev E 40 0 [some (.ref 1000005)] [] I T (KI (fun v1 I1 T1 => (v1 = 0 → False) ∧ (¬ (v1 = 0) → (ev E 41 0 [some (.ref 1000105), some (.int x1)] [] I1 T1 (KI (fun v2 I2 T2 => ((v2.toUInt32 % 65536).toInt32 = v2) ∧ Q (.inl (some (.int v2))) I2 T2) (fun _ _ _ => False))))) (fun x I1 T1 => Q (.inr x) I1 T1))
theorem s_Str_charAt_1000005_0 {E : MEnv} {I : II} {T : TT} {Q : QQ} {x1 : Int32} (hq : t_Str_charAt_1000005_0 E I T Q x1) : ev E 39 0 [some (.ref 1000005), some (.int x1)] [] I T Q := by
  unfold t_Str_charAt_1000005_0 at hq
  refine ev_seq 1 (ip' := 1) (loc' := [some (.ref 1000005), some (.int x1)]) (st' := [(.ref 1000005)]) (I1 := I) (T1 := T) rfl ?_
  refine ev_callI rfl rfl rfl (fun v1 I1 T1 hq => ?_) (fun x I1 T1 hq => ?_) hq
  · refine ev_br (p := v1 = 0) (a := 8) (b := 3) (st' := []) inferInstance rfl rfl (fun hb => ?_) (fun hb => ?_)
    · have hq := hq.1 hb
      refine ev_seq 3 (ip' := 11) (loc' := [some (.ref 1000005), some (.int x1)]) (st' := [(.int x1), (.ref 1000105)]) (I1 := I1) (T1 := T1) rfl ?_
      exact hq.elim
    · have hq := hq.2 hb
      refine ev_seq 3 (ip' := 6) (loc' := [some (.ref 1000005), some (.int x1)]) (st' := [(.int x1), (.ref 1000105)]) (I1 := I1) (T1 := T1) rfl ?_
      refine ev_callI rfl rfl rfl (fun v2 I2 T2 hq => ?_) (fun x I1 T1 hq => ?_) hq
      · exact ev_ret rfl (ev_rcc rfl hq.1) hq.2
      · exact hq.elim
  · exact ⟨by decide, hq⟩
/-- java/lang/String.checkIndex(II)V -/
def t_Str_checkIndex_0 (E : MEnv) (I : II) (T : TT) (Q : QQ) (x0 : Int32) (x1 : Int32) : Prop := ev E 43 0 [some (.int x0), some (.int x1), some (.retAddr 0)] [] I T (KI (fun v1 I1 T1 => Q (.inl none) I1 T1) (fun _ _ _ => False))
theorem s_Str_checkIndex_0 {E : MEnv} {I : II} {T : TT} {Q : QQ} {x0 : Int32} {x1 : Int32} (hq : t_Str_checkIndex_0 E I T Q x0 x1) : ev E 42 0 [some (.int x0), some (.int x1)] [] I T Q := by
  unfold t_Str_checkIndex_0 at hq
  refine ev_seq 3 (ip' := 3) (loc' := [some (.int x0), some (.int x1)]) (st' := [(.retAddr 0), (.int x1), (.int x0)]) (I1 := I) (T1 := T) rfl ?_
  refine ev_callI rfl rfl rfl (fun v1 I1 T1 hq => ?_) (fun x I1 T1 hq => ?_) hq
  · refine ev_seq 1 (ip' := 5) (loc' := [some (.int x0), some (.int x1)]) (st' := []) (I1 := I1) (T1 := T1) rfl ?_
    exact ev_ret rfl rfl hq
  · exact hq.elim
/-- java/lang/String.coder()B -/
def t_Str_coder_1000003_6 (E : MEnv) (I : II) (T : TT) (Q : QQ) (y0 : Int32) : Prop := (y0.toInt8.toInt32 = y0) ∧ Q (.inl (some (.int y0))) I T
theorem s_Str_coder_1000003_6 {E : MEnv} {I : II} {T : TT} {Q : QQ} {y0 : Int32} (hq : t_Str_coder_1000003_6 E I T Q y0) : ev E 38 6 [none] [(.int y0)] I T Q := by
  unfold t_Str_coder_1000003_6 at hq
  exact ev_ret rfl (ev_rcb rfl hq.1) hq.2
def t_Str_coder_1000003_0 (E : MEnv) (I : II) (T : TT) (Q : QQ) : Prop := ((1 : Int32) = 0 → (t_Str_coder_1000003_6 E I T Q 1)) ∧ (¬ ((1 : Int32) = 0) → (t_Str_coder_1000003_6 E I T Q 0))
theorem s_Str_coder_1000003_0 {E : MEnv} {I : II} {T : TT} {Q : QQ} (hq : t_Str_coder_1000003_0 E I T Q) : ev E 38 0 [some (.ref 1000003)] [] I T Q := by
  unfold t_Str_coder_1000003_0 at hq
  refine ev_seq 1 (ip' := 1) (loc' := [some (.ref 1000003)]) (st' := [(.int 1)]) (I1 := I) (T1 := T) rfl ?_
  refine ev_br (p := (1 : Int32) = 0) (a := 5) (b := 2) (st' := []) inferInstance rfl rfl (fun hb => ?_) (fun hb => ?_)
  · have hq := hq.1 hb
    refine ev_seq 1 (ip' := 6) (loc' := [some (.ref 1000003)]) (st' := [(.int 1)]) (I1 := I) (T1 := T) rfl ?_
    refine ev_fg [false] (loc' := [none]) rfl ?_
    exact s_Str_coder_1000003_6 (T := T) hq
  · have hq := hq.2 hb
    refine ev_seq 3 (ip' := 6) (loc' := [some (.ref 1000003)]) (st' := [(.int 0)]) (I1 := I) (T1 := T) rfl ?_
    refine ev_fg [false] (loc' := [none]) rfl ?_
    exact s_Str_coder_1000003_6 (T := T) hq
/-- java/lang/String.coder()B -/
def t_Str_coder_1000004_6 (E : MEnv) (I : II) (T : TT) (Q : QQ) (y0 : Int32) : Prop := (y0.toInt8.toInt32 = y0) ∧ Q (.inl (some (.int y0))) I T
theorem s_Str_coder_1000004_6 {E : MEnv} {I : II} {T : TT} {Q : QQ} {y0 : Int32} (hq : t_Str_coder_1000004_6 E I T Q y0) : ev E 38 6 [none] [(.int y0)] I T Q := by
  unfold t_Str_coder_1000004_6 at hq
  exact ev_ret rfl (ev_rcb rfl hq.1) hq.2
def t_Str_coder_1000004_0 (E : MEnv) (I : II) (T : TT) (Q : QQ) : Prop := ((1 : Int32) = 0 → (t_Str_coder_1000004_6 E I T Q 1)) ∧ (¬ ((1 : Int32) = 0) → (t_Str_coder_1000004_6 E I T Q 0))
theorem s_Str_coder_1000004_0 {E : MEnv} {I : II} {T : TT} {Q : QQ} (hq : t_Str_coder_1000004_0 E I T Q) : ev E 38 0 [some (.ref 1000004)] [] I T Q := by
  unfold t_Str_coder_1000004_0 at hq
  refine ev_seq 1 (ip' := 1) (loc' := [some (.ref 1000004)]) (st' := [(.int 1)]) (I1 := I) (T1 := T) rfl ?_
  refine ev_br (p := (1 : Int32) = 0) (a := 5) (b := 2) (st' := []) inferInstance rfl rfl (fun hb => ?_) (fun hb => ?_)
  · have hq := hq.1 hb
    refine ev_seq 1 (ip' := 6) (loc' := [some (.ref 1000004)]) (st' := [(.int 1)]) (I1 := I) (T1 := T) rfl ?_
    refine ev_fg [false] (loc' := [none]) rfl ?_
    exact s_Str_coder_1000004_6 (T := T) hq
  · have hq := hq.2 hb
    refine ev_seq 3 (ip' := 6) (loc' := [some (.ref 1000004)]) (st' := [(.int 0)]) (I1 := I) (T1 := T) rfl ?_
    refine ev_fg [false] (loc' := [none]) rfl ?_
    exact s_Str_coder_1000004_6 (T := T) hq
/-- java/lang/String.coder()B -/
def t_Str_coder_1000005_6 (E : MEnv) (I : II) (T : TT) (Q : QQ) (y0 : Int32) : Prop := (y0.toInt8.toInt32 = y0) ∧ Q (.inl (some (.int y0))) I T
theorem s_Str_coder_1000005_6 {E : MEnv} {I : II} {T : TT} {Q : QQ} {y0 : Int32} (hq : t_Str_coder_1000005_6 E I T Q y0) : ev E 38 6 [none] [(.int y0)] I T Q := by
  unfold t_Str_coder_1000005_6 at hq
  exact ev_ret rfl (ev_rcb rfl hq.1) hq.2
def t_Str_coder_1000005_0 (E : MEnv) (I : II) (T : TT) (Q : QQ) : Prop := ((1 : Int32) = 0 → (t_Str_coder_1000005_6 E I T Q 1)) ∧ (¬ ((1 : Int32) = 0) → (t_Str_coder_1000005_6 E I T Q 0))
theorem s_Str_coder_1000005_0 {E : MEnv} {I : II} {T : TT} {Q : QQ} (hq : t_Str_coder_1000005_0 E I T Q) : ev E 38 0 [some (.ref 1000005)] [] I T Q := by
  unfold t_Str_coder_1000005_0 at hq
  refine ev_seq 1 (ip' := 1) (loc' := [some (.ref 1000005)]) (st' := [(.int 1)]) (I1 := I) (T1 := T) rfl ?_
  refine ev_br (p := (1 : Int32) = 0) (a := 5) (b := 2) (st' := []) inferInstance rfl rfl (fun hb => ?_) (fun hb => ?_)
  · have hq := hq.1 hb
    refine ev_seq 1 (ip' := 6) (loc' := [some (.ref 1000005)]) (st' := [(.int 1)]) (I1 := I) (T1 := T) rfl ?_
    refine ev_fg [false] (loc' := [none]) rfl ?_
    exact s_Str_coder_1000005_6 (T := T) hq
  · have hq := hq.2 hb
    refine ev_seq 3 (ip' := 6) (loc' := [some (.ref 1000005)]) (st' := [(.int 0)]) (I1 := I) (T1 := T) rfl ?_
    refine ev_fg [false] (loc' := [none]) rfl ?_
    exact s_Str_coder_1000005_6 (T := T) hq
/-- java/lang/String.isLatin1()Z -/
def t_Str_isLatin1_1000003_8 (E : MEnv) (I : II) (T : TT) (Q : QQ) (y0 : Int32) : Prop := (y0 = 0 ∨ y0 = 1) ∧ Q (.inl (some (.int y0))) I T
theorem s_Str_isLatin1_1000003_8 {E : MEnv} {I : II} {T : TT} {Q : QQ} {y0 : Int32} (hq : t_Str_isLatin1_1000003_8 E I T Q y0) : ev E 40 8 [none] [(.int y0)] I T Q := by
  unfold t_Str_isLatin1_1000003_8 at hq
  exact ev_retb rfl rfl hq.1 hq.2
def t_Str_isLatin1_1000003_7 (E : MEnv) (I : II) (T : TT) (Q : QQ) : Prop := t_Str_isLatin1_1000003_8 E I T Q 0
theorem s_Str_isLatin1_1000003_7 {E : MEnv} {I : II} {T : TT} {Q : QQ} (hq : t_Str_isLatin1_1000003_7 E I T Q) : ev E 40 7 [none] [] I T Q := by
  unfold t_Str_isLatin1_1000003_7 at hq
  refine ev_seq 1 (ip' := 8) (loc' := [none]) (st' := [(.int 0)]) (I1 := I) (T1 := T) rfl ?_
  exact s_Str_isLatin1_1000003_8 (T := T) hq
def t_Str_isLatin1_1000003_0 (E : MEnv) (I : II) (T : TT) (Q : QQ) : Prop := ((1 : Int32) = 0 → (t_Str_isLatin1_1000003_7 E I T Q )) ∧ (¬ ((1 : Int32) = 0) → (((0 : Int32) = 0 → (t_Str_isLatin1_1000003_8 E I T Q 1)) ∧ (¬ ((0 : Int32) = 0) → (t_Str_isLatin1_1000003_7 E I T Q ))))
theorem s_Str_isLatin1_1000003_0 {E : MEnv} {I : II} {T : TT} {Q : QQ} (hq : t_Str_isLatin1_1000003_0 E I T Q) : ev E 40 0 [some (.ref 1000003)] [] I T Q := by
  unfold t_Str_isLatin1_1000003_0 at hq
  refine ev_seq 1 (ip' := 1) (loc' := [some (.ref 1000003)]) (st' := [(.int 1)]) (I1 := I) (T1 := T) rfl ?_
  refine ev_br (p := (1 : Int32) = 0) (a := 7) (b := 2) (st' := []) inferInstance rfl rfl (fun hb => ?_) (fun hb => ?_)
  · have hq := hq.1 hb
    refine ev_fg [false] (loc' := [none]) rfl ?_
    exact s_Str_isLatin1_1000003_7 (T := T) hq
  · have hq := hq.2 hb
    refine ev_seq 2 (ip' := 4) (loc' := [some (.ref 1000003)]) (st' := [(.int 0)]) (I1 := I) (T1 := T) rfl ?_
    refine ev_br (p := (0 : Int32) = 0) (a := 5) (b := 7) (st' := []) inferInstance rfl rfl (fun hb => ?_) (fun hb => ?_)
    · have hq := hq.1 hb
      refine ev_seq 2 (ip' := 8) (loc' := [some (.ref 1000003)]) (st' := [(.int 1)]) (I1 := I) (T1 := T) rfl ?_
      refine ev_fg [false] (loc' := [none]) rfl ?_
      exact s_Str_isLatin1_1000003_8 (T := T) hq
    · have hq := hq.2 hb
      refine ev_fg [false] (loc' := [none]) rfl ?_
      exact s_Str_isLatin1_1000003_7 (T := T) hq
/-- java/lang/String.isLatin1()Z -/
def t_Str_isLatin1_1000004_8 (E : MEnv) (I : II) (T : TT) (Q : QQ) (y0 : Int32) : Prop := (y0 = 0 ∨ y0 = 1) ∧ Q (.inl (some (.int y0))) I T
theorem s_Str_isLatin1_1000004_8 {E : MEnv} {I : II} {T : TT} {Q : QQ} {y0 : Int32} (hq : t_Str_isLatin1_1000004_8 E I T Q y0) : ev E 40 8 [none] [(.int y0)] I T Q := by
  unfold t_Str_isLatin1_1000004_8 at hq
  exact ev_retb rfl rfl hq.1 hq.2
def t_Str_isLatin1_1000004_7 (E : MEnv) (I : II) (T : TT) (Q : QQ) : Prop := t_Str_isLatin1_1000004_8 E I T Q 0
theorem s_Str_isLatin1_1000004_7 {E : MEnv} {I : II} {T : TT} {Q : QQ} (hq : t_Str_isLatin1_1000004_7 E I T Q) : ev E 40 7 [none] [] I T Q := by
  unfold t_Str_isLatin1_1000004_7 at hq
  refine ev_seq 1 (ip' := 8) (loc' := [none]) (st' := [(.int 0)]) (I1 := I) (T1 := T) rfl ?_
  exact s_Str_isLatin1_1000004_8 (T := T) hq
def t_Str_isLatin1_1000004_0 (E : MEnv) (I : II) (T : TT) (Q : QQ) : Prop := ((1 : Int32) = 0 → (t_Str_isLatin1_1000004_7 E I T Q )) ∧ (¬ ((1 : Int32) = 0) → (((0 : Int32) = 0 → (t_Str_isLatin1_1000004_8 E I T Q 1)) ∧ (¬ ((0 : Int32) = 0) → (t_Str_isLatin1_1000004_7 E I T Q ))))
theorem s_Str_isLatin1_1000004_0 {E : MEnv} {I : II} {T : TT} {Q : QQ} (hq : t_Str_isLatin1_1000004_0 E I T Q) : ev E 40 0 [some (.ref 1000004)] [] I T Q := by
  unfold t_Str_isLatin1_1000004_0 at hq
  refine ev_seq 1 (ip' := 1) (loc' := [some (.ref 1000004)]) (st' := [(.int 1)]) (I1 := I) (T1 := T) rfl ?_
  refine ev_br (p := (1 : Int32) = 0) (a := 7) (b := 2) (st' := []) inferInstance rfl rfl (fun hb => ?_) (fun hb => ?_)
  · have hq := hq.1 hb
    refine ev_fg [false] (loc' := [none]) rfl ?_
    exact s_Str_isLatin1_1000004_7 (T := T) hq
  · have hq := hq.2 hb
    refine ev_seq 2 (ip' := 4) (loc' := [some (.ref 1000004)]) (st' := [(.int 0)]) (I1 := I) (T1 := T) rfl ?_
    refine ev_br (p := (0 : Int32) = 0) (a := 5) (b := 7) (st' := []) inferInstance rfl rfl (fun hb => ?_) (fun hb => ?_)
    · have hq := hq.1 hb
      refine ev_seq 2 (ip' := 8) (loc' := [some (.ref 1000004)]) (st' := [(.int 1)]) (I1 := I) (T1 := T) rfl ?_
      refine ev_fg [false] (loc' := [none]) rfl ?_
      exact s_Str_isLatin1_1000004_8 (T := T) hq
    · have hq := hq.2 hb
      refine ev_fg [false] (loc' := [none]) rfl ?_
      exact s_Str_isLatin1_1000004_7 (T := T) hq
/-- java/lang/String.isLatin1()Z -/
def t_Str_isLatin1_1000005_8 (E : MEnv) (I : II) (T : TT) (Q : QQ) (y0 : Int32) : Prop := (y0 = 0 ∨ y0 = 1) ∧ Q (.inl (some (.int y0))) I T
theorem s_Str_isLatin1_1000005_8 {E : MEnv} {I : II} {T : TT} {Q : QQ} {y0 : Int32} (hq : t_Str_isLatin1_1000005_8 E I T Q y0) : ev E 40 8 [none] [(.int y0)] I T Q := by
  unfold t_Str_isLatin1_1000005_8 at hq
  exact ev_retb rfl rfl hq.1 hq.2
def t_Str_isLatin1_1000005_7 (E : MEnv) (I : II) (T : TT) (Q : QQ) : Prop := t_Str_isLatin1_1000005_8 E I T Q 0
theorem s_Str_isLatin1_1000005_7 {E : MEnv} {I : II} {T : TT} {Q : QQ} (hq : t_Str_isLatin1_1000005_7 E I T Q) : ev E 40 7 [none] [] I T Q := by
  unfold t_Str_isLatin1_1000005_7 at hq
  refine ev_seq 1 (ip' := 8) (loc' := [none]) (st' := [(.int 0)]) (I1 := I) (T1 := T) rfl ?_
  exact s_Str_isLatin1_1000005_8 (T := T) hq
def t_Str_isLatin1_1000005_0 (E : MEnv) (I : II) (T : TT) (Q : QQ) : Prop := ((1 : Int32) = 0 → (t_Str_isLatin1_1000005_7 E I T Q )) ∧ (¬ ((1 : Int32) = 0) → (((0 : Int32) = 0 → (t_Str_isLatin1_1000005_8 E I T Q 1)) ∧ (¬ ((0 : Int32) = 0) → (t_Str_isLatin1_1000005_7 E I T Q ))))
theorem s_Str_isLatin1_1000005_0 {E : MEnv} {I : II} {T : TT} {Q : QQ} (hq : t_Str_isLatin1_1000005_0 E I T Q) : ev E 40 0 [some (.ref 1000005)] [] I T Q := by
  unfold t_Str_isLatin1_1000005_0 at hq
  refine ev_seq 1 (ip' := 1) (loc' := [some (.ref 1000005)]) (st' := [(.int 1)]) (I1 := I) (T1 := T) rfl ?_
  refine ev_br (p := (1 : Int32) = 0) (a := 7) (b := 2) (st' := []) inferInstance rfl rfl (fun hb => ?_) (fun hb => ?_)
  · have hq := hq.1 hb
    refine ev_fg [false] (loc' := [none]) rfl ?_
    exact s_Str_isLatin1_1000005_7 (T := T) hq
  · have hq := hq.2 hb
    refine ev_seq 2 (ip' := 4) (loc' := [some (.ref 1000005)]) (st' := [(.int 0)]) (I1 := I) (T1 := T) rfl ?_
    refine ev_br (p := (0 : Int32) = 0) (a := 5) (b := 7) (st' := []) inferInstance rfl rfl (fun hb => ?_) (fun hb => ?_)
    · have hq := hq.1 hb
      refine ev_seq 2 (ip' := 8) (loc' := [some (.ref 1000005)]) (st' := [(.int 1)]) (I1 := I) (T1 := T) rfl ?_
      refine ev_fg [false] (loc' := [none]) rfl ?_
      exact s_Str_isLatin1_1000005_8 (T := T) hq
    · have hq := hq.2 hb
      refine ev_fg [false] (loc' := [none]) rfl ?_
      exact s_Str_isLatin1_1000005_7 (T := T) hq
/-- java/lang/String.length()I -/
def t_Str_length_1000003_0 (E : MEnv) (I : II) (T : TT) (Q : QQ) : Prop := ev E 38 0 [some (.ref 1000003)] [] I T (KI (fun v1 I1 T1 => Q (.inl (some (.int ((26 : Int32) >>> (v1 &&& 31))))) I1 T1) (fun x I1 T1 => Q (.inr x) I1 T1))
theorem s_Str_length_1000003_0 {E : MEnv} {I : II} {T : TT} {Q : QQ} (hq : t_Str_length_1000003_0 E I T Q) : ev E 37 0 [some (.ref 1000003)] [] I T Q := by
  unfold t_Str_length_1000003_0 at hq
  refine ev_seq 4 (ip' := 4) (loc' := [some (.ref 1000003)]) (st' := [(.ref 1000003), (.int 26)]) (I1 := I) (T1 := T) rfl ?_
  refine ev_callI rfl rfl rfl (fun v1 I1 T1 hq => ?_) (fun x I1 T1 hq => ?_) hq
  · refine ev_seq 1 (ip' := 6) (loc' := [some (.ref 1000003)]) (st' := [(.int ((26 : Int32) >>> (v1 &&& 31)))]) (I1 := I1) (T1 := T1) rfl ?_
    exact ev_ret rfl rfl hq
  · exact ⟨by decide, hq⟩
/-- java/lang/String.length()I -/
def t_Str_length_1000004_0 (E : MEnv) (I : II) (T : TT) (Q : QQ) : Prop := ev E 38 0 [some (.ref 1000004)] [] I T (KI (fun v1 I1 T1 => Q (.inl (some (.int ((56 : Int32) >>> (v1 &&& 31))))) I1 T1) (fun x I1 T1 => Q (.inr x) I1 T1))
theorem s_Str_length_1000004_0 {E : MEnv} {I : II} {T : TT} {Q : QQ} (hq : t_Str_length_1000004_0 E I T Q) : ev E 37 0 [some (.ref 1000004)] [] I T Q := by
  unfold t_Str_length_1000004_0 at hq
  refine ev_seq 4 (ip' := 4) (loc' := [some (.ref 1000004)]) (st' := [(.ref 1000004), (.int 56)]) (I1 := I) (T1 := T) rfl ?_
  refine ev_callI rfl rfl rfl (fun v1 I1 T1 hq => ?_) (fun x I1 T1 hq => ?_) hq
  · refine ev_seq 1 (ip' := 6) (loc' := [some (.ref 1000004)]) (st' := [(.int ((56 : Int32) >>> (v1 &&& 31)))]) (I1 := I1) (T1 := T1) rfl ?_
    exact ev_ret rfl rfl hq
  · exact ⟨by decide, hq⟩
/-- java/lang/String.length()I -/
def t_Str_length_1000005_0 (E : MEnv) (I : II) (T : TT) (Q : QQ) : Prop := ev E 38 0 [some (.ref 1000005)] [] I T (KI (fun v1 I1 T1 => Q (.inl (some (.int ((35 : Int32) >>> (v1 &&& 31))))) I1 T1) (fun x I1 T1 => Q (.inr x) I1 T1))
theorem s_Str_length_1000005_0 {E : MEnv} {I : II} {T : TT} {Q : QQ} (hq : t_Str_length_1000005_0 E I T Q) : ev E 37 0 [some (.ref 1000005)] [] I T Q := by
  unfold t_Str_length_1000005_0 at hq
  refine ev_seq 4 (ip' := 4) (loc' := [some (.ref 1000005)]) (st' := [(.ref 1000005), (.int 35)]) (I1 := I) (T1 := T) rfl ?_
  refine ev_callI rfl rfl rfl (fun v1 I1 T1 hq => ?_) (fun x I1 T1 hq => ?_) hq
  · refine ev_seq 1 (ip' := 6) (loc' := [some (.ref 1000005)]) (st' := [(.int ((35 : Int32) >>> (v1 &&& 31)))]) (I1 := I1) (T1 := T1) rfl ?_
    exact ev_ret rfl rfl hq
  · exact ⟨by decide, hq⟩
/-- FeltHarness$Text.add(I)V -/
def t_Text_add_25 (E : MEnv) (I : II) (T : TT) (Q : QQ) (x1 : Int32) (x2 : Int32) : Prop := ev E 22 2 [some (.ref 1), some (.int x1), some (.int (x2 + (-8)))] [] I T Q
theorem s_Text_add_25 {E : MEnv} {I : II} {T : TT} {Q : QQ} {x1 : Int32} {x2 : Int32} (hq : t_Text_add_25 E I T Q x1 x2) : ev E 22 25 [some (.ref 1), some (.int x1), some (.int x2)] [] I T Q := by
  unfold t_Text_add_25 at hq
  refine ev_seq 2 (ip' := 2) (loc' := [some (.ref 1), some (.int x1), some (.int (x2 + (-8)))]) (st' := []) (I1 := I) (T1 := T) rfl ?_
  exact hq
def t_Text_add_2 (E : MEnv) (I : II) (T : TT) (Q : QQ) (x1 : Int32) (x2 : Int32) : Prop := (x2 < 0 → (Q (.inl none) I T)) ∧ (¬ (x2 < 0) → ((600 ≤ (I 1 1) → (t_Text_add_25 E I T Q x1 x2)) ∧ (¬ (600 ≤ (I 1 1)) → ((¬ (I 1 1) < 0 ∧ (I 1 1).toNatClampNeg < 600) ∧ (t_Text_add_25 E (m_up (m_up I 2 (I 1 1).toNatClampNeg (((i_ushr x1 x2).toInt8.toInt32).toInt8.toInt32)) 1 1 (((m_up I 2 (I 1 1).toNatClampNeg (((i_ushr x1 x2).toInt8.toInt32).toInt8.toInt32)) 1 1) + 1)) T Q x1 x2)))))
theorem s_Text_add_2 {E : MEnv} {I : II} {T : TT} {Q : QQ} {x1 : Int32} {x2 : Int32} (hq : t_Text_add_2 E I T Q x1 x2) : ev E 22 2 [some (.ref 1), some (.int x1), some (.int x2)] [] I T Q := by
  unfold t_Text_add_2 at hq
  refine ev_seq 1 (ip' := 3) (loc' := [some (.ref 1), some (.int x1), some (.int x2)]) (st' := [(.int x2)]) (I1 := I) (T1 := T) rfl ?_
  refine ev_br (p := x2 < 0) (a := 27) (b := 4) (st' := []) inferInstance rfl rfl (fun hb => ?_) (fun hb => ?_)
  · have hq := hq.1 hb
    exact ev_ret rfl rfl hq
  · have hq := hq.2 hb
    refine ev_seq 5 (ip' := 9) (loc' := [some (.ref 1), some (.int x1), some (.int x2)]) (st' := [(.int 600), (.int (I 1 1))]) (I1 := I) (T1 := T) rfl ?_
    refine ev_br (p := 600 ≤ (I 1 1)) (a := 25) (b := 10) (st' := []) inferInstance rfl rfl (fun hb => ?_) (fun hb => ?_)
    · have hq := hq.1 hb
      exact s_Text_add_25 (T := T) hq
    · have hq := hq.2 hb
      refine ev_seq 8 (ip' := 18) (loc' := [some (.ref 1), some (.int x1), some (.int x2)]) (st' := [(.int ((i_ushr x1 x2).toInt8.toInt32)), (.int (I 1 1)), (.ref 2)]) (I1 := I) (T1 := T) rfl ?_
      obtain ⟨hg, hq⟩ := hq
      refine ev_bast rfl rfl hg ?_
      refine ev_seq 6 (ip' := 25) (loc' := [some (.ref 1), some (.int x1), some (.int x2)]) (st' := []) (I1 := m_up (m_up I 2 (I 1 1).toNatClampNeg (((i_ushr x1 x2).toInt8.toInt32).toInt8.toInt32)) 1 1 (((m_up I 2 (I 1 1).toNatClampNeg (((i_ushr x1 x2).toInt8.toInt32).toInt8.toInt32)) 1 1) + 1)) (T1 := T) rfl ?_
      exact s_Text_add_25 (T := T) hq
def t_Text_add_0 (E : MEnv) (I : II) (T : TT) (Q : QQ) (x1 : Int32) : Prop := t_Text_add_2 E I T Q x1 24
theorem s_Text_add_0 {E : MEnv} {I : II} {T : TT} {Q : QQ} {x1 : Int32} (hq : t_Text_add_0 E I T Q x1) : ev E 22 0 [some (.ref 1), some (.int x1), none] [] I T Q := by
  unfold t_Text_add_0 at hq
  refine ev_seq 2 (ip' := 2) (loc' := [some (.ref 1), some (.int x1), some (.int 24)]) (st' := []) (I1 := I) (T1 := T) rfl ?_
  exact s_Text_add_2 (T := T) hq
/-- FeltHarness$Text.begin(I)V -/
def t_Text_begin_0 (E : MEnv) (I : II) (T : TT) (Q : QQ) (x1 : Int32) : Prop := Q (.inl none) (m_up (m_up (m_up (m_up (m_up (m_up I 1 2 (if 600 < x1 then 600 else x1)) 1 1 0) 1 3 0) 1 4 0) 1 5 0) 1 6 (-1)) T
theorem s_Text_begin_0 {E : MEnv} {I : II} {T : TT} {Q : QQ} {x1 : Int32} (hq : t_Text_begin_0 E I T Q x1) : ev E 29 0 [some (.ref 1), some (.int x1)] [] I T Q := by
  unfold t_Text_begin_0 at hq
  refine ev_seq 22 (ip' := 22) (loc' := [some (.ref 1), some (.int x1)]) (st' := []) (I1 := m_up (m_up (m_up (m_up (m_up (m_up I 1 2 (if 600 < x1 then 600 else x1)) 1 1 0) 1 3 0) 1 4 0) 1 5 0) 1 6 (-1)) (T1 := T) rfl ?_
  exact ev_ret rfl rfl hq
/-- FeltHarness$Text.byteAt(I)I -/
def t_Text_byteAt_19 (E : MEnv) (I : II) (T : TT) (Q : QQ) (y0 : Int32) : Prop := Q (.inl (some (.int y0))) I T
theorem s_Text_byteAt_19 {E : MEnv} {I : II} {T : TT} {Q : QQ} {y0 : Int32} (hq : t_Text_byteAt_19 E I T Q y0) : ev E 35 19 [none, none] [(.int y0)] I T Q := by
  unfold t_Text_byteAt_19 at hq
  exact ev_ret rfl rfl hq
def t_Text_byteAt_18 (E : MEnv) (I : II) (T : TT) (Q : QQ) : Prop := t_Text_byteAt_19 E I T Q (-1)
theorem s_Text_byteAt_18 {E : MEnv} {I : II} {T : TT} {Q : QQ} (hq : t_Text_byteAt_18 E I T Q) : ev E 35 18 [none, none] [] I T Q := by
  unfold t_Text_byteAt_18 at hq
  refine ev_seq 1 (ip' := 19) (loc' := [none, none]) (st' := [(.int (-1))]) (I1 := I) (T1 := T) rfl ?_
  exact s_Text_byteAt_19 (T := T) hq
def t_Text_byteAt_0 (E : MEnv) (I : II) (T : TT) (Q : QQ) (x1 : Int32) : Prop := (x1 < 0 → (t_Text_byteAt_18 E I T Q )) ∧ (¬ (x1 < 0) → (((I 1 2) ≤ x1 → (t_Text_byteAt_18 E I T Q )) ∧ (¬ ((I 1 2) ≤ x1) → ((600 ≤ x1 → (t_Text_byteAt_18 E I T Q )) ∧ (¬ (600 ≤ x1) → ((¬ x1 < 0 ∧ x1.toNatClampNeg < 600) ∧ (t_Text_byteAt_19 E I T Q ((I 2 x1.toNatClampNeg) &&& 255))))))))
theorem s_Text_byteAt_0 {E : MEnv} {I : II} {T : TT} {Q : QQ} {x1 : Int32} (hq : t_Text_byteAt_0 E I T Q x1) : ev E 35 0 [some (.ref 1), some (.int x1)] [] I T Q := by
  unfold t_Text_byteAt_0 at hq
  refine ev_seq 1 (ip' := 1) (loc' := [some (.ref 1), some (.int x1)]) (st' := [(.int x1)]) (I1 := I) (T1 := T) rfl ?_
  refine ev_br (p := x1 < 0) (a := 18) (b := 2) (st' := []) inferInstance rfl rfl (fun hb => ?_) (fun hb => ?_)
  · have hq := hq.1 hb
    refine ev_fg [false, false] (loc' := [none, none]) rfl ?_
    exact s_Text_byteAt_18 (T := T) hq
  · have hq := hq.2 hb
    refine ev_seq 3 (ip' := 5) (loc' := [some (.ref 1), some (.int x1)]) (st' := [(.int (I 1 2)), (.int x1)]) (I1 := I) (T1 := T) rfl ?_
    refine ev_br (p := (I 1 2) ≤ x1) (a := 18) (b := 6) (st' := []) inferInstance rfl rfl (fun hb => ?_) (fun hb => ?_)
    · have hq := hq.1 hb
      refine ev_fg [false, false] (loc' := [none, none]) rfl ?_
      exact s_Text_byteAt_18 (T := T) hq
    · have hq := hq.2 hb
      refine ev_seq 4 (ip' := 10) (loc' := [some (.ref 1), some (.int x1)]) (st' := [(.int 600), (.int x1)]) (I1 := I) (T1 := T) rfl ?_
      refine ev_br (p := 600 ≤ x1) (a := 18) (b := 11) (st' := []) inferInstance rfl rfl (fun hb => ?_) (fun hb => ?_)
      · have hq := hq.1 hb
        refine ev_fg [false, false] (loc' := [none, none]) rfl ?_
        exact s_Text_byteAt_18 (T := T) hq
      · have hq := hq.2 hb
        refine ev_seq 3 (ip' := 14) (loc' := [some (.ref 1), some (.int x1)]) (st' := [(.int x1), (.ref 2)]) (I1 := I) (T1 := T) rfl ?_
        obtain ⟨hg, hq⟩ := hq
        refine ev_bald rfl rfl hg ?_
        refine ev_seq 3 (ip' := 19) (loc' := [some (.ref 1), some (.int x1)]) (st' := [(.int ((I 2 x1.toNatClampNeg) &&& 255))]) (I1 := I) (T1 := T) rfl ?_
        refine ev_fg [false, false] (loc' := [none, none]) rfl ?_
        exact s_Text_byteAt_19 (T := T) hq
/-- FeltHarness$Text.fail(II)V -/
def t_Text_fail_9 (E : MEnv) (I : II) (T : TT) (Q : QQ) : Prop := Q (.inl none) I T
theorem s_Text_fail_9 {E : MEnv} {I : II} {T : TT} {Q : QQ} (hq : t_Text_fail_9 E I T Q) : ev E 45 9 [none, none, none] [] I T Q := by
  unfold t_Text_fail_9 at hq
  exact ev_ret rfl rfl hq
def t_Text_fail_0 (E : MEnv) (I : II) (T : TT) (Q : QQ) (x1 : Int32) (x2 : Int32) : Prop := ((I 1 5) = 0 → (t_Text_fail_9 E (m_up (m_up I 1 5 x1) 1 6 x2) T Q )) ∧ (¬ ((I 1 5) = 0) → (t_Text_fail_9 E I T Q ))
theorem s_Text_fail_0 {E : MEnv} {I : II} {T : TT} {Q : QQ} {x1 : Int32} {x2 : Int32} (hq : t_Text_fail_0 E I T Q x1 x2) : ev E 45 0 [some (.ref 1), some (.int x1), some (.int x2)] [] I T Q := by
  unfold t_Text_fail_0 at hq
  refine ev_seq 2 (ip' := 2) (loc' := [some (.ref 1), some (.int x1), some (.int x2)]) (st' := [(.int (I 1 5))]) (I1 := I) (T1 := T) rfl ?_
  refine ev_br (p := (I 1 5) = 0) (a := 3) (b := 9) (st' := []) inferInstance rfl rfl (fun hb => ?_) (fun hb => ?_)
  · have hq := hq.1 hb
    refine ev_seq 6 (ip' := 9) (loc' := [some (.ref 1), some (.int x1), some (.int x2)]) (st' := []) (I1 := m_up (m_up I 1 5 x1) 1 6 x2) (T1 := T) rfl ?_
    refine ev_fg [false, false, false] (loc' := [none, none, none]) rfl ?_
    exact s_Text_fail_9 (T := T) hq
  · have hq := hq.2 hb
    refine ev_fg [false, false, false] (loc' := [none, none, none]) rfl ?_
    exact s_Text_fail_9 (T := T) hq
/-- FeltHarness$Text.isDigit(I)Z -/
def t_Text_isDigit_9 (E : MEnv) (I : II) (T : TT) (Q : QQ) (y0 : Int32) : Prop := (y0 = 0 ∨ y0 = 1) ∧ Q (.inl (some (.int y0))) I T
theorem s_Text_isDigit_9 {E : MEnv} {I : II} {T : TT} {Q : QQ} {y0 : Int32} (hq : t_Text_isDigit_9 E I T Q y0) : ev E 48 9 [none] [(.int y0)] I T Q := by
  unfold t_Text_isDigit_9 at hq
  exact ev_retb rfl rfl hq.1 hq.2
def t_Text_isDigit_8 (E : MEnv) (I : II) (T : TT) (Q : QQ) : Prop := t_Text_isDigit_9 E I T Q 0
theorem s_Text_isDigit_8 {E : MEnv} {I : II} {T : TT} {Q : QQ} (hq : t_Text_isDigit_8 E I T Q) : ev E 48 8 [none] [] I T Q := by
  unfold t_Text_isDigit_8 at hq
  refine ev_seq 1 (ip' := 9) (loc' := [none]) (st' := [(.int 0)]) (I1 := I) (T1 := T) rfl ?_
  exact s_Text_isDigit_9 (T := T) hq
def t_Text_isDigit_0 (E : MEnv) (I : II) (T : TT) (Q : QQ) (x0 : Int32) : Prop := (x0 < 48 → (t_Text_isDigit_8 E I T Q )) ∧ (¬ (x0 < 48) → ((57 < x0 → (t_Text_isDigit_8 E I T Q )) ∧ (¬ (57 < x0) → (t_Text_isDigit_9 E I T Q 1))))
theorem s_Text_isDigit_0 {E : MEnv} {I : II} {T : TT} {Q : QQ} {x0 : Int32} (hq : t_Text_isDigit_0 E I T Q x0) : ev E 48 0 [some (.int x0)] [] I T Q := by
  unfold t_Text_isDigit_0 at hq
  refine ev_seq 2 (ip' := 2) (loc' := [some (.int x0)]) (st' := [(.int 48), (.int x0)]) (I1 := I) (T1 := T) rfl ?_
  refine ev_br (p := x0 < 48) (a := 8) (b := 3) (st' := []) inferInstance rfl rfl (fun hb => ?_) (fun hb => ?_)
  · have hq := hq.1 hb
    refine ev_fg [false] (loc' := [none]) rfl ?_
    exact s_Text_isDigit_8 (T := T) hq
  · have hq := hq.2 hb
    refine ev_seq 2 (ip' := 5) (loc' := [some (.int x0)]) (st' := [(.int 57), (.int x0)]) (I1 := I) (T1 := T) rfl ?_
    refine ev_br (p := 57 < x0) (a := 8) (b := 6) (st' := []) inferInstance rfl rfl (fun hb => ?_) (fun hb => ?_)
    · have hq := hq.1 hb
      refine ev_fg [false] (loc' := [none]) rfl ?_
      exact s_Text_isDigit_8 (T := T) hq
    · have hq := hq.2 hb
      refine ev_seq 2 (ip' := 9) (loc' := [some (.int x0)]) (st' := [(.int 1)]) (I1 := I) (T1 := T) rfl ?_
      refine ev_fg [false] (loc' := [none]) rfl ?_
      exact s_Text_isDigit_9 (T := T) hq
/-- FeltHarness$Text.isFine()Z -/
def t_Text_isFine_6 (E : MEnv) (I : II) (T : TT) (Q : QQ) (y0 : Int32) : Prop := (y0 = 0 ∨ y0 = 1) ∧ Q (.inl (some (.int y0))) I T
theorem s_Text_isFine_6 {E : MEnv} {I : II} {T : TT} {Q : QQ} {y0 : Int32} (hq : t_Text_isFine_6 E I T Q y0) : ev E 31 6 [none] [(.int y0)] I T Q := by
  unfold t_Text_isFine_6 at hq
  exact ev_retb rfl rfl hq.1 hq.2
def t_Text_isFine_0 (E : MEnv) (I : II) (T : TT) (Q : QQ) : Prop := ((I 1 5) = 0 → (t_Text_isFine_6 E I T Q 1)) ∧ (¬ ((I 1 5) = 0) → (t_Text_isFine_6 E I T Q 0))
theorem s_Text_isFine_0 {E : MEnv} {I : II} {T : TT} {Q : QQ} (hq : t_Text_isFine_0 E I T Q) : ev E 31 0 [some (.ref 1)] [] I T Q := by
  unfold t_Text_isFine_0 at hq
  refine ev_seq 2 (ip' := 2) (loc' := [some (.ref 1)]) (st' := [(.int (I 1 5))]) (I1 := I) (T1 := T) rfl ?_
  refine ev_br (p := (I 1 5) = 0) (a := 3) (b := 5) (st' := []) inferInstance rfl rfl (fun hb => ?_) (fun hb => ?_)
  · have hq := hq.1 hb
    refine ev_seq 2 (ip' := 6) (loc' := [some (.ref 1)]) (st' := [(.int 1)]) (I1 := I) (T1 := T) rfl ?_
    refine ev_fg [false] (loc' := [none]) rfl ?_
    exact s_Text_isFine_6 (T := T) hq
  · have hq := hq.2 hb
    refine ev_seq 1 (ip' := 6) (loc' := [some (.ref 1)]) (st' := [(.int 0)]) (I1 := I) (T1 := T) rfl ?_
    refine ev_fg [false] (loc' := [none]) rfl ?_
    exact s_Text_isFine_6 (T := T) hq
/-- FeltHarness$Text.isLetter(I)Z -/
def t_Text_isLetter_9 (E : MEnv) (I : II) (T : TT) (Q : QQ) (y0 : Int32) : Prop := (y0 = 0 ∨ y0 = 1) ∧ Q (.inl (some (.int y0))) I T
theorem s_Text_isLetter_9 {E : MEnv} {I : II} {T : TT} {Q : QQ} {y0 : Int32} (hq : t_Text_isLetter_9 E I T Q y0) : ev E 36 9 [none] [(.int y0)] I T Q := by
  unfold t_Text_isLetter_9 at hq
  exact ev_retb rfl rfl hq.1 hq.2
def t_Text_isLetter_8 (E : MEnv) (I : II) (T : TT) (Q : QQ) : Prop := t_Text_isLetter_9 E I T Q 0
theorem s_Text_isLetter_8 {E : MEnv} {I : II} {T : TT} {Q : QQ} (hq : t_Text_isLetter_8 E I T Q) : ev E 36 8 [none] [] I T Q := by
  unfold t_Text_isLetter_8 at hq
  refine ev_seq 1 (ip' := 9) (loc' := [none]) (st' := [(.int 0)]) (I1 := I) (T1 := T) rfl ?_
  exact s_Text_isLetter_9 (T := T) hq
def t_Text_isLetter_0 (E : MEnv) (I : II) (T : TT) (Q : QQ) (x0 : Int32) : Prop := (x0 < 97 → (t_Text_isLetter_8 E I T Q )) ∧ (¬ (x0 < 97) → ((122 < x0 → (t_Text_isLetter_8 E I T Q )) ∧ (¬ (122 < x0) → (t_Text_isLetter_9 E I T Q 1))))
theorem s_Text_isLetter_0 {E : MEnv} {I : II} {T : TT} {Q : QQ} {x0 : Int32} (hq : t_Text_isLetter_0 E I T Q x0) : ev E 36 0 [some (.int x0)] [] I T Q := by
  unfold t_Text_isLetter_0 at hq
  refine ev_seq 2 (ip' := 2) (loc' := [some (.int x0)]) (st' := [(.int 97), (.int x0)]) (I1 := I) (T1 := T) rfl ?_
  refine ev_br (p := x0 < 97) (a := 8) (b := 3) (st' := []) inferInstance rfl rfl (fun hb => ?_) (fun hb => ?_)
  · have hq := hq.1 hb
    refine ev_fg [false] (loc' := [none]) rfl ?_
    exact s_Text_isLetter_8 (T := T) hq
  · have hq := hq.2 hb
    refine ev_seq 2 (ip' := 5) (loc' := [some (.int x0)]) (st' := [(.int 122), (.int x0)]) (I1 := I) (T1 := T) rfl ?_
    refine ev_br (p := 122 < x0) (a := 8) (b := 6) (st' := []) inferInstance rfl rfl (fun hb => ?_) (fun hb => ?_)
    · have hq := hq.1 hb
      refine ev_fg [false] (loc' := [none]) rfl ?_
      exact s_Text_isLetter_8 (T := T) hq
    · have hq := hq.2 hb
      refine ev_seq 2 (ip' := 9) (loc' := [some (.int x0)]) (st' := [(.int 1)]) (I1 := I) (T1 := T) rfl ?_
      refine ev_fg [false] (loc' := [none]) rfl ?_
      exact s_Text_isLetter_9 (T := T) hq
/-- FeltHarness$Text.isSame(Ljava/lang/String;II)Z -/
def t_Text_isSame_1000003_36 (E : MEnv) (I : II) (T : TT) (Q : QQ) : Prop := Q (.inl (some (.int 1))) I T
theorem s_Text_isSame_1000003_36 {E : MEnv} {I : II} {T : TT} {Q : QQ} (hq : t_Text_isSame_1000003_36 E I T Q) : ev E 44 36 [none, none, none, none, none] [] I T Q := by
  unfold t_Text_isSame_1000003_36 at hq
  refine ev_seq 1 (ip' := 37) (loc' := [none, none, none, none, none]) (st' := [(.int 1)]) (I1 := I) (T1 := T) rfl ?_
  exact ev_ret rfl rfl hq
def t_Text_isSame_1000003_13 (E : MEnv) (I : II) (T : TT) (Q : QQ) (x2 : Int32) (x3 : Int32) (x4 : Int32) : Prop := (x3 ≤ x4 → (t_Text_isSame_1000003_36 E I T Q )) ∧ (¬ (x3 ≤ x4) → (ev E 37 0 [some (.ref 1000003)] [] I T (KI (fun v1 I1 T1 => (v1 ≤ x4 → (t_Text_isSame_1000003_36 E I1 T1 Q )) ∧ (¬ (v1 ≤ x4) → (ev E 35 0 [some (.ref 1), some (.int (((I1 1 4) + x4) - x2))] [] I1 T1 (KI (fun v2 I2 T2 => ev E 39 0 [some (.ref 1000003), some (.int x4)] [] I2 T2 (KI (fun v3 I3 T3 => (v2 = v3 → (ev E 44 13 [some (.ref 1), some (.ref 1000003), some (.int x2), some (.int x3), some (.int (x4 + 1))] [] I3 T3 Q)) ∧ (¬ (v2 = v3) → (Q (.inl (some (.int 0))) I3 T3))) (fun x I1 T1 => Q (.inr x) I1 T1))) (fun x I1 T1 => Q (.inr x) I1 T1))))) (fun x I1 T1 => Q (.inr x) I1 T1))))
theorem s_Text_isSame_1000003_13 {E : MEnv} {I : II} {T : TT} {Q : QQ} {x2 : Int32} {x3 : Int32} {x4 : Int32} (hq : t_Text_isSame_1000003_13 E I T Q x2 x3 x4) : ev E 44 13 [some (.ref 1), some (.ref 1000003), some (.int x2), some (.int x3), some (.int x4)] [] I T Q := by
  unfold t_Text_isSame_1000003_13 at hq
  refine ev_seq 2 (ip' := 15) (loc' := [some (.ref 1), some (.ref 1000003), some (.int x2), some (.int x3), some (.int x4)]) (st' := [(.int x3), (.int x4)]) (I1 := I) (T1 := T) rfl ?_
  refine ev_br (p := x3 ≤ x4) (a := 36) (b := 16) (st' := []) inferInstance rfl rfl (fun hb => ?_) (fun hb => ?_)
  · have hq := hq.1 hb
    refine ev_fg [false, false, false, false, false] (loc' := [none, none, none, none, none]) rfl ?_
    exact s_Text_isSame_1000003_36 (T := T) hq
  · have hq := hq.2 hb
    refine ev_seq 2 (ip' := 18) (loc' := [some (.ref 1), some (.ref 1000003), some (.int x2), some (.int x3), some (.int x4)]) (st' := [(.ref 1000003), (.int x4)]) (I1 := I) (T1 := T) rfl ?_
    refine ev_callI rfl rfl rfl (fun v1 I1 T1 hq => ?_) (fun x I1 T1 hq => ?_) hq
    · refine ev_br (p := v1 ≤ x4) (a := 36) (b := 20) (st' := []) inferInstance rfl rfl (fun hb => ?_) (fun hb => ?_)
      · have hq := hq.1 hb
        refine ev_fg [false, false, false, false, false] (loc' := [none, none, none, none, none]) rfl ?_
        exact s_Text_isSame_1000003_36 (T := T1) hq
      · have hq := hq.2 hb
        refine ev_seq 7 (ip' := 27) (loc' := [some (.ref 1), some (.ref 1000003), some (.int x2), some (.int x3), some (.int x4)]) (st' := [(.int (((I1 1 4) + x4) - x2)), (.ref 1)]) (I1 := I1) (T1 := T1) rfl ?_
        refine ev_callI rfl rfl rfl (fun v2 I2 T2 hq => ?_) (fun x I1 T1 hq => ?_) hq
        · refine ev_seq 2 (ip' := 30) (loc' := [some (.ref 1), some (.ref 1000003), some (.int x2), some (.int x3), some (.int x4)]) (st' := [(.int x4), (.ref 1000003), (.int v2)]) (I1 := I2) (T1 := T2) rfl ?_
          refine ev_callI rfl rfl rfl (fun v3 I3 T3 hq => ?_) (fun x I1 T1 hq => ?_) hq
          · refine ev_br (p := v2 = v3) (a := 34) (b := 32) (st' := []) inferInstance rfl rfl (fun hb => ?_) (fun hb => ?_)
            · have hq := hq.1 hb
              refine ev_seq 2 (ip' := 13) (loc' := [some (.ref 1), some (.ref 1000003), some (.int x2), some (.int x3), some (.int (x4 + 1))]) (st' := []) (I1 := I3) (T1 := T3) rfl ?_
              exact hq
            · have hq := hq.2 hb
              refine ev_seq 1 (ip' := 33) (loc' := [some (.ref 1), some (.ref 1000003), some (.int x2), some (.int x3), some (.int x4)]) (st' := [(.int 0)]) (I1 := I3) (T1 := T3) rfl ?_
              exact ev_ret rfl rfl hq
          · exact ⟨by decide, hq⟩
        · exact ⟨by decide, hq⟩
    · exact ⟨by decide, hq⟩
def t_Text_isSame_1000003_0 (E : MEnv) (I : II) (T : TT) (Q : QQ) (x2 : Int32) (x3 : Int32) : Prop := (((I 1 3) - (I 1 4)) = (x3 - x2) → (t_Text_isSame_1000003_13 E I T Q x2 x3 x2)) ∧ (¬ (((I 1 3) - (I 1 4)) = (x3 - x2)) → (Q (.inl (some (.int 0))) I T))
theorem s_Text_isSame_1000003_0 {E : MEnv} {I : II} {T : TT} {Q : QQ} {x2 : Int32} {x3 : Int32} (hq : t_Text_isSame_1000003_0 E I T Q x2 x3) : ev E 44 0 [some (.ref 1), some (.ref 1000003), some (.int x2), some (.int x3), none] [] I T Q := by
  unfold t_Text_isSame_1000003_0 at hq
  refine ev_seq 8 (ip' := 8) (loc' := [some (.ref 1), some (.ref 1000003), some (.int x2), some (.int x3), none]) (st' := [(.int (x3 - x2)), (.int ((I 1 3) - (I 1 4)))]) (I1 := I) (T1 := T) rfl ?_
  refine ev_br (p := ((I 1 3) - (I 1 4)) = (x3 - x2)) (a := 11) (b := 9) (st' := []) inferInstance rfl rfl (fun hb => ?_) (fun hb => ?_)
  · have hq := hq.1 hb
    refine ev_seq 2 (ip' := 13) (loc' := [some (.ref 1), some (.ref 1000003), some (.int x2), some (.int x3), some (.int x2)]) (st' := []) (I1 := I) (T1 := T) rfl ?_
    exact s_Text_isSame_1000003_13 (T := T) hq
  · have hq := hq.2 hb
    refine ev_seq 1 (ip' := 10) (loc' := [some (.ref 1), some (.ref 1000003), some (.int x2), some (.int x3), none]) (st' := [(.int 0)]) (I1 := I) (T1 := T) rfl ?_
    exact ev_ret rfl rfl hq
/-- FeltHarness$Text.isSame(Ljava/lang/String;II)Z -/
def t_Text_isSame_1000004_36 (E : MEnv) (I : II) (T : TT) (Q : QQ) : Prop := Q (.inl (some (.int 1))) I T
theorem s_Text_isSame_1000004_36 {E : MEnv} {I : II} {T : TT} {Q : QQ} (hq : t_Text_isSame_1000004_36 E I T Q) : ev E 44 36 [none, none, none, none, none] [] I T Q := by
  unfold t_Text_isSame_1000004_36 at hq
  refine ev_seq 1 (ip' := 37) (loc' := [none, none, none, none, none]) (st' := [(.int 1)]) (I1 := I) (T1 := T) rfl ?_
  exact ev_ret rfl rfl hq
def t_Text_isSame_1000004_13 (E : MEnv) (I : II) (T : TT) (Q : QQ) (x2 : Int32) (x3 : Int32) (x4 : Int32) : Prop := (x3 ≤ x4 → (t_Text_isSame_1000004_36 E I T Q )) ∧ (¬ (x3 ≤ x4) → (ev E 37 0 [some (.ref 1000004)] [] I T (KI (fun v1 I1 T1 => (v1 ≤ x4 → (t_Text_isSame_1000004_36 E I1 T1 Q )) ∧ (¬ (v1 ≤ x4) → (ev E 35 0 [some (.ref 1), some (.int (((I1 1 4) + x4) - x2))] [] I1 T1 (KI (fun v2 I2 T2 => ev E 39 0 [some (.ref 1000004), some (.int x4)] [] I2 T2 (KI (fun v3 I3 T3 => (v2 = v3 → (ev E 44 13 [some (.ref 1), some (.ref 1000004), some (.int x2), some (.int x3), some (.int (x4 + 1))] [] I3 T3 Q)) ∧ (¬ (v2 = v3) → (Q (.inl (some (.int 0))) I3 T3))) (fun x I1 T1 => Q (.inr x) I1 T1))) (fun x I1 T1 => Q (.inr x) I1 T1))))) (fun x I1 T1 => Q (.inr x) I1 T1))))
theorem s_Text_isSame_1000004_13 {E : MEnv} {I : II} {T : TT} {Q : QQ} {x2 : Int32} {x3 : Int32} {x4 : Int32} (hq : t_Text_isSame_1000004_13 E I T Q x2 x3 x4) : ev E 44 13 [some (.ref 1), some (.ref 1000004), some (.int x2), some (.int x3), some (.int x4)] [] I T Q := by
  unfold t_Text_isSame_1000004_13 at hq
  refine ev_seq 2 (ip' := 15) (loc' := [some (.ref 1), some (.ref 1000004), some (.int x2), some (.int x3), some (.int x4)]) (st' := [(.int x3), (.int x4)]) (I1 := I) (T1 := T) rfl ?_
  refine ev_br (p := x3 ≤ x4) (a := 36) (b := 16) (st' := []) inferInstance rfl rfl (fun hb => ?_) (fun hb => ?_)
  · have hq := hq.1 hb
    refine ev_fg [false, false, false, false, false] (loc' := [none, none, none, none, none]) rfl ?_
    exact s_Text_isSame_1000004_36 (T := T) hq
  · have hq := hq.2 hb
    refine ev_seq 2 (ip' := 18) (loc' := [some (.ref 1), some (.ref 1000004), some (.int x2), some (.int x3), some (.int x4)]) (st' := [(.ref 1000004), (.int x4)]) (I1 := I) (T1 := T) rfl ?_
    refine ev_callI rfl rfl rfl (fun v1 I1 T1 hq => ?_) (fun x I1 T1 hq => ?_) hq
    · refine ev_br (p := v1 ≤ x4) (a := 36) (b := 20) (st' := []) inferInstance rfl rfl (fun hb => ?_) (fun hb => ?_)
      · have hq := hq.1 hb
        refine ev_fg [false, false, false, false, false] (loc' := [none, none, none, none, none]) rfl ?_
        exact s_Text_isSame_1000004_36 (T := T1) hq
      · have hq := hq.2 hb
        refine ev_seq 7 (ip' := 27) (loc' := [some (.ref 1), some (.ref 1000004), some (.int x2), some (.int x3), some (.int x4)]) (st' := [(.int (((I1 1 4) + x4) - x2)), (.ref 1)]) (I1 := I1) (T1 := T1) rfl ?_
        refine ev_callI rfl rfl rfl (fun v2 I2 T2 hq => ?_) (fun x I1 T1 hq => ?_) hq
        · refine ev_seq 2 (ip' := 30) (loc' := [some (.ref 1), some (.ref 1000004), some (.int x2), some (.int x3), some (.int x4)]) (st' := [(.int x4), (.ref 1000004), (.int v2)]) (I1 := I2) (T1 := T2) rfl ?_
          refine ev_callI rfl rfl rfl (fun v3 I3 T3 hq => ?_) (fun x I1 T1 hq => ?_) hq
          · refine ev_br (p := v2 = v3) (a := 34) (b := 32) (st' := []) inferInstance rfl rfl (fun hb => ?_) (fun hb => ?_)
            · have hq := hq.1 hb
              refine ev_seq 2 (ip' := 13) (loc' := [some (.ref 1), some (.ref 1000004), some (.int x2), some (.int x3), some (.int (x4 + 1))]) (st' := []) (I1 := I3) (T1 := T3) rfl ?_
              exact hq
            · have hq := hq.2 hb
              refine ev_seq 1 (ip' := 33) (loc' := [some (.ref 1), some (.ref 1000004), some (.int x2), some (.int x3), some (.int x4)]) (st' := [(.int 0)]) (I1 := I3) (T1 := T3) rfl ?_
              exact ev_ret rfl rfl hq
          · exact ⟨by decide, hq⟩
        · exact ⟨by decide, hq⟩
    · exact ⟨by decide, hq⟩
def t_Text_isSame_1000004_0 (E : MEnv) (I : II) (T : TT) (Q : QQ) (x2 : Int32) (x3 : Int32) : Prop := (((I 1 3) - (I 1 4)) = (x3 - x2) → (t_Text_isSame_1000004_13 E I T Q x2 x3 x2)) ∧ (¬ (((I 1 3) - (I 1 4)) = (x3 - x2)) → (Q (.inl (some (.int 0))) I T))
theorem s_Text_isSame_1000004_0 {E : MEnv} {I : II} {T : TT} {Q : QQ} {x2 : Int32} {x3 : Int32} (hq : t_Text_isSame_1000004_0 E I T Q x2 x3) : ev E 44 0 [some (.ref 1), some (.ref 1000004), some (.int x2), some (.int x3), none] [] I T Q := by
  unfold t_Text_isSame_1000004_0 at hq
  refine ev_seq 8 (ip' := 8) (loc' := [some (.ref 1), some (.ref 1000004), some (.int x2), some (.int x3), none]) (st' := [(.int (x3 - x2)), (.int ((I 1 3) - (I 1 4)))]) (I1 := I) (T1 := T) rfl ?_
  refine ev_br (p := ((I 1 3) - (I 1 4)) = (x3 - x2)) (a := 11) (b := 9) (st' := []) inferInstance rfl rfl (fun hb => ?_) (fun hb => ?_)
  · have hq := hq.1 hb
    refine ev_seq 2 (ip' := 13) (loc' := [some (.ref 1), some (.ref 1000004), some (.int x2), some (.int x3), some (.int x2)]) (st' := []) (I1 := I) (T1 := T) rfl ?_
    exact s_Text_isSame_1000004_13 (T := T) hq
  · have hq := hq.2 hb
    refine ev_seq 1 (ip' := 10) (loc' := [some (.ref 1), some (.ref 1000004), some (.int x2), some (.int x3), none]) (st' := [(.int 0)]) (I1 := I) (T1 := T) rfl ?_
    exact ev_ret rfl rfl hq
/-- FeltHarness$Text.isSame(Ljava/lang/String;II)Z -/
def t_Text_isSame_1000005_36 (E : MEnv) (I : II) (T : TT) (Q : QQ) : Prop := Q (.inl (some (.int 1))) I T
theorem s_Text_isSame_1000005_36 {E : MEnv} {I : II} {T : TT} {Q : QQ} (hq : t_Text_isSame_1000005_36 E I T Q) : ev E 44 36 [none, none, none, none, none] [] I T Q := by
  unfold t_Text_isSame_1000005_36 at hq
  refine ev_seq 1 (ip' := 37) (loc' := [none, none, none, none, none]) (st' := [(.int 1)]) (I1 := I) (T1 := T) rfl ?_
  exact ev_ret rfl rfl hq
def t_Text_isSame_1000005_13 (E : MEnv) (I : II) (T : TT) (Q : QQ) (x2 : Int32) (x3 : Int32) (x4 : Int32) : Prop := (x3 ≤ x4 → (t_Text_isSame_1000005_36 E I T Q )) ∧ (¬ (x3 ≤ x4) → (ev E 37 0 [some (.ref 1000005)] [] I T (KI (fun v1 I1 T1 => (v1 ≤ x4 → (t_Text_isSame_1000005_36 E I1 T1 Q )) ∧ (¬ (v1 ≤ x4) → (ev E 35 0 [some (.ref 1), some (.int (((I1 1 4) + x4) - x2))] [] I1 T1 (KI (fun v2 I2 T2 => ev E 39 0 [some (.ref 1000005), some (.int x4)] [] I2 T2 (KI (fun v3 I3 T3 => (v2 = v3 → (ev E 44 13 [some (.ref 1), some (.ref 1000005), some (.int x2), some (.int x3), some (.int (x4 + 1))] [] I3 T3 Q)) ∧ (¬ (v2 = v3) → (Q (.inl (some (.int 0))) I3 T3))) (fun x I1 T1 => Q (.inr x) I1 T1))) (fun x I1 T1 => Q (.inr x) I1 T1))))) (fun x I1 T1 => Q (.inr x) I1 T1))))
theorem s_Text_isSame_1000005_13 {E : MEnv} {I : II} {T : TT} {Q : QQ} {x2 : Int32} {x3 : Int32} {x4 : Int32} (hq : t_Text_isSame_1000005_13 E I T Q x2 x3 x4) : ev E 44 13 [some (.ref 1), some (.ref 1000005), some (.int x2), some (.int x3), some (.int x4)] [] I T Q := by
  unfold t_Text_isSame_1000005_13 at hq
  refine ev_seq 2 (ip' := 15) (loc' := [some (.ref 1), some (.ref 1000005), some (.int x2), some (.int x3), some (.int x4)]) (st' := [(.int x3), (.int x4)]) (I1 := I) (T1 := T) rfl ?_
  refine ev_br (p := x3 ≤ x4) (a := 36) (b := 16) (st' := []) inferInstance rfl rfl (fun hb => ?_) (fun hb => ?_)
  · have hq := hq.1 hb
    refine ev_fg [false, false, false, false, false] (loc' := [none, none, none, none, none]) rfl ?_
    exact s_Text_isSame_1000005_36 (T := T) hq
  · have hq := hq.2 hb
    refine ev_seq 2 (ip' := 18) (loc' := [some (.ref 1), some (.ref 1000005), some (.int x2), some (.int x3), some (.int x4)]) (st' := [(.ref 1000005), (.int x4)]) (I1 := I) (T1 := T) rfl ?_
    refine ev_callI rfl rfl rfl (fun v1 I1 T1 hq => ?_) (fun x I1 T1 hq => ?_) hq
    · refine ev_br (p := v1 ≤ x4) (a := 36) (b := 20) (st' := []) inferInstance rfl rfl (fun hb => ?_) (fun hb => ?_)
      · have hq := hq.1 hb
        refine ev_fg [false, false, false, false, false] (loc' := [none, none, none, none, none]) rfl ?_
        exact s_Text_isSame_1000005_36 (T := T1) hq
      · have hq := hq.2 hb
        refine ev_seq 7 (ip' := 27) (loc' := [some (.ref 1), some (.ref 1000005), some (.int x2), some (.int x3), some (.int x4)]) (st' := [(.int (((I1 1 4) + x4) - x2)), (.ref 1)]) (I1 := I1) (T1 := T1) rfl ?_
        refine ev_callI rfl rfl rfl (fun v2 I2 T2 hq => ?_) (fun x I1 T1 hq => ?_) hq
        · refine ev_seq 2 (ip' := 30) (loc' := [some (.ref 1), some (.ref 1000005), some (.int x2), some (.int x3), some (.int x4)]) (st' := [(.int x4), (.ref 1000005), (.int v2)]) (I1 := I2) (T1 := T2) rfl ?_
          refine ev_callI rfl rfl rfl (fun v3 I3 T3 hq => ?_) (fun x I1 T1 hq => ?_) hq
          · refine ev_br (p := v2 = v3) (a := 34) (b := 32) (st' := []) inferInstance rfl rfl (fun hb => ?_) (fun hb => ?_)
            · have hq := hq.1 hb
              refine ev_seq 2 (ip' := 13) (loc' := [some (.ref 1), some (.ref 1000005), some (.int x2), some (.int x3), some (.int (x4 + 1))]) (st' := []) (I1 := I3) (T1 := T3) rfl ?_
              exact hq
            · have hq := hq.2 hb
              refine ev_seq 1 (ip' := 33) (loc' := [some (.ref 1), some (.ref 1000005), some (.int x2), some (.int x3), some (.int x4)]) (st' := [(.int 0)]) (I1 := I3) (T1 := T3) rfl ?_
              exact ev_ret rfl rfl hq
          · exact ⟨by decide, hq⟩
        · exact ⟨by decide, hq⟩
    · exact ⟨by decide, hq⟩
def t_Text_isSame_1000005_0 (E : MEnv) (I : II) (T : TT) (Q : QQ) (x2 : Int32) (x3 : Int32) : Prop := (((I 1 3) - (I 1 4)) = (x3 - x2) → (t_Text_isSame_1000005_13 E I T Q x2 x3 x2)) ∧ (¬ (((I 1 3) - (I 1 4)) = (x3 - x2)) → (Q (.inl (some (.int 0))) I T))
theorem s_Text_isSame_1000005_0 {E : MEnv} {I : II} {T : TT} {Q : QQ} {x2 : Int32} {x3 : Int32} (hq : t_Text_isSame_1000005_0 E I T Q x2 x3) : ev E 44 0 [some (.ref 1), some (.ref 1000005), some (.int x2), some (.int x3), none] [] I T Q := by
  unfold t_Text_isSame_1000005_0 at hq
  refine ev_seq 8 (ip' := 8) (loc' := [some (.ref 1), some (.ref 1000005), some (.int x2), some (.int x3), none]) (st' := [(.int (x3 - x2)), (.int ((I 1 3) - (I 1 4)))]) (I1 := I) (T1 := T) rfl ?_
  refine ev_br (p := ((I 1 3) - (I 1 4)) = (x3 - x2)) (a := 11) (b := 9) (st' := []) inferInstance rfl rfl (fun hb => ?_) (fun hb => ?_)
  · have hq := hq.1 hb
    refine ev_seq 2 (ip' := 13) (loc' := [some (.ref 1), some (.ref 1000005), some (.int x2), some (.int x3), some (.int x2)]) (st' := []) (I1 := I) (T1 := T) rfl ?_
    exact s_Text_isSame_1000005_13 (T := T) hq
  · have hq := hq.2 hb
    refine ev_seq 1 (ip' := 10) (loc' := [some (.ref 1), some (.ref 1000005), some (.int x2), some (.int x3), none]) (st' := [(.int 0)]) (I1 := I) (T1 := T) rfl ?_
    exact ev_ret rfl rfl hq
/-- FeltHarness$Text.peek()I -/
def t_Text_peek_45 (E : MEnv) (I : II) (T : TT) (Q : QQ) (y0 : Int32) : Prop := Q (.inl (some (.int y0))) I T
theorem s_Text_peek_45 {E : MEnv} {I : II} {T : TT} {Q : QQ} {y0 : Int32} (hq : t_Text_peek_45 E I T Q y0) : ev E 32 45 [none] [(.int y0)] I T Q := by
  unfold t_Text_peek_45 at hq
  exact ev_ret rfl rfl hq
def t_Text_peek_44 (E : MEnv) (I : II) (T : TT) (Q : QQ) : Prop := t_Text_peek_45 E I T Q (-1)
theorem s_Text_peek_44 {E : MEnv} {I : II} {T : TT} {Q : QQ} (hq : t_Text_peek_44 E I T Q) : ev E 32 44 [none] [] I T Q := by
  unfold t_Text_peek_44 at hq
  refine ev_seq 1 (ip' := 45) (loc' := [none]) (st' := [(.int (-1))]) (I1 := I) (T1 := T) rfl ?_
  exact s_Text_peek_45 (T := T) hq
def t_Text_peek_25 (E : MEnv) (I : II) (T : TT) (Q : QQ) : Prop := ((I 1 2) ≤ (I 1 3) → (t_Text_peek_44 E I T Q )) ∧ (¬ ((I 1 2) ≤ (I 1 3)) → ((600 ≤ (I 1 3) → (t_Text_peek_44 E I T Q )) ∧ (¬ (600 ≤ (I 1 3)) → ((¬ (I 1 3) < 0 ∧ (I 1 3).toNatClampNeg < 600) ∧ (t_Text_peek_45 E I T Q ((I 2 (I 1 3).toNatClampNeg) &&& 255))))))
theorem s_Text_peek_25 {E : MEnv} {I : II} {T : TT} {Q : QQ} (hq : t_Text_peek_25 E I T Q) : ev E 32 25 [some (.ref 1)] [] I T Q := by
  unfold t_Text_peek_25 at hq
  refine ev_seq 4 (ip' := 29) (loc' := [some (.ref 1)]) (st' := [(.int (I 1 2)), (.int (I 1 3))]) (I1 := I) (T1 := T) rfl ?_
  refine ev_br (p := (I 1 2) ≤ (I 1 3)) (a := 44) (b := 30) (st' := []) inferInstance rfl rfl (fun hb => ?_) (fun hb => ?_)
  · have hq := hq.1 hb
    refine ev_fg [false] (loc' := [none]) rfl ?_
    exact s_Text_peek_44 (T := T) hq
  · have hq := hq.2 hb
    refine ev_seq 5 (ip' := 35) (loc' := [some (.ref 1)]) (st' := [(.int 600), (.int (I 1 3))]) (I1 := I) (T1 := T) rfl ?_
    refine ev_br (p := 600 ≤ (I 1 3)) (a := 44) (b := 36) (st' := []) inferInstance rfl rfl (fun hb => ?_) (fun hb => ?_)
    · have hq := hq.1 hb
      refine ev_fg [false] (loc' := [none]) rfl ?_
      exact s_Text_peek_44 (T := T) hq
    · have hq := hq.2 hb
      refine ev_seq 4 (ip' := 40) (loc' := [some (.ref 1)]) (st' := [(.int (I 1 3)), (.ref 2)]) (I1 := I) (T1 := T) rfl ?_
      obtain ⟨hg, hq⟩ := hq
      refine ev_bald rfl rfl hg ?_
      refine ev_seq 3 (ip' := 45) (loc' := [some (.ref 1)]) (st' := [(.int ((I 2 (I 1 3).toNatClampNeg) &&& 255))]) (I1 := I) (T1 := T) rfl ?_
      refine ev_fg [false] (loc' := [none]) rfl ?_
      exact s_Text_peek_45 (T := T) hq
def t_Text_peek_0 (E : MEnv) (I : II) (T : TT) (Q : QQ) : Prop := ((I 1 2) ≤ (I 1 3) → (t_Text_peek_25 E I T Q )) ∧ (¬ ((I 1 2) ≤ (I 1 3)) → ((600 ≤ (I 1 3) → (t_Text_peek_25 E I T Q )) ∧ (¬ (600 ≤ (I 1 3)) → ((¬ (I 1 3) < 0 ∧ (I 1 3).toNatClampNeg < 600) ∧ (((I 2 (I 1 3).toNatClampNeg) = 32 → (ev E 32 0 [some (.ref 1)] [] (m_up I 1 3 ((I 1 3) + 1)) T Q)) ∧ (¬ ((I 2 (I 1 3).toNatClampNeg) = 32) → (t_Text_peek_25 E I T Q )))))))
theorem s_Text_peek_0 {E : MEnv} {I : II} {T : TT} {Q : QQ} (hq : t_Text_peek_0 E I T Q) : ev E 32 0 [some (.ref 1)] [] I T Q := by
  unfold t_Text_peek_0 at hq
  refine ev_seq 4 (ip' := 4) (loc' := [some (.ref 1)]) (st' := [(.int (I 1 2)), (.int (I 1 3))]) (I1 := I) (T1 := T) rfl ?_
  refine ev_br (p := (I 1 2) ≤ (I 1 3)) (a := 25) (b := 5) (st' := []) inferInstance rfl rfl (fun hb => ?_) (fun hb => ?_)
  · have hq := hq.1 hb
    exact s_Text_peek_25 (T := T) hq
  · have hq := hq.2 hb
    refine ev_seq 5 (ip' := 10) (loc' := [some (.ref 1)]) (st' := [(.int 600), (.int (I 1 3))]) (I1 := I) (T1 := T) rfl ?_
    refine ev_br (p := 600 ≤ (I 1 3)) (a := 25) (b := 11) (st' := []) inferInstance rfl rfl (fun hb => ?_) (fun hb => ?_)
    · have hq := hq.1 hb
      exact s_Text_peek_25 (T := T) hq
    · have hq := hq.2 hb
      refine ev_seq 4 (ip' := 15) (loc' := [some (.ref 1)]) (st' := [(.int (I 1 3)), (.ref 2)]) (I1 := I) (T1 := T) rfl ?_
      obtain ⟨hg, hq⟩ := hq
      refine ev_bald rfl rfl hg ?_
      refine ev_seq 1 (ip' := 17) (loc' := [some (.ref 1)]) (st' := [(.int 32), (.int (I 2 (I 1 3).toNatClampNeg))]) (I1 := I) (T1 := T) rfl ?_
      refine ev_br (p := (I 2 (I 1 3).toNatClampNeg) = 32) (a := 18) (b := 25) (st' := []) inferInstance rfl rfl (fun hb => ?_) (fun hb => ?_)
      · have hq := hq.1 hb
        refine ev_seq 7 (ip' := 0) (loc' := [some (.ref 1)]) (st' := []) (I1 := m_up I 1 3 ((I 1 3) + 1)) (T1 := T) rfl ?_
        exact hq
      · have hq := hq.2 hb
        exact s_Text_peek_25 (T := T) hq
/-- FeltHarness$Text.skip()V -/
def t_Text_skip_11 (E : MEnv) (I : II) (T : TT) (Q : QQ) : Prop := Q (.inl none) I T
theorem s_Text_skip_11 {E : MEnv} {I : II} {T : TT} {Q : QQ} (hq : t_Text_skip_11 E I T Q) : ev E 52 11 [none] [] I T Q := by
  unfold t_Text_skip_11 at hq
  exact ev_ret rfl rfl hq
def t_Text_skip_0 (E : MEnv) (I : II) (T : TT) (Q : QQ) : Prop := ((I 1 2) ≤ (I 1 3) → (t_Text_skip_11 E I T Q )) ∧ (¬ ((I 1 2) ≤ (I 1 3)) → (t_Text_skip_11 E (m_up I 1 3 ((I 1 3) + 1)) T Q ))
theorem s_Text_skip_0 {E : MEnv} {I : II} {T : TT} {Q : QQ} (hq : t_Text_skip_0 E I T Q) : ev E 52 0 [some (.ref 1)] [] I T Q := by
  unfold t_Text_skip_0 at hq
  refine ev_seq 4 (ip' := 4) (loc' := [some (.ref 1)]) (st' := [(.int (I 1 2)), (.int (I 1 3))]) (I1 := I) (T1 := T) rfl ?_
  refine ev_br (p := (I 1 2) ≤ (I 1 3)) (a := 11) (b := 5) (st' := []) inferInstance rfl rfl (fun hb => ?_) (fun hb => ?_)
  · have hq := hq.1 hb
    refine ev_fg [false] (loc' := [none]) rfl ?_
    exact s_Text_skip_11 (T := T) hq
  · have hq := hq.2 hb
    refine ev_seq 6 (ip' := 11) (loc' := [some (.ref 1)]) (st' := []) (I1 := m_up I 1 3 ((I 1 3) + 1)) (T1 := T) rfl ?_
    refine ev_fg [false] (loc' := [none]) rfl ?_
    exact s_Text_skip_11 (T := T) hq
/-- FeltHarness$Text.takeNumber(II)I -/
def t_Text_takeNumber_61 (E : MEnv) (I : II) (T : TT) (Q : QQ) (x4 : Int32) : Prop := Q (.inl (some (.int x4))) I T
theorem s_Text_takeNumber_61 {E : MEnv} {I : II} {T : TT} {Q : QQ} {x4 : Int32} (hq : t_Text_takeNumber_61 E I T Q x4) : ev E 47 61 [none, none, none, none, some (.int x4)] [] I T Q := by
  unfold t_Text_takeNumber_61 at hq
  refine ev_seq 1 (ip' := 62) (loc' := [none, none, none, none, some (.int x4)]) (st' := [(.int x4)]) (I1 := I) (T1 := T) rfl ?_
  exact ev_ret rfl rfl hq
def t_Text_takeNumber_56 (E : MEnv) (I : II) (T : TT) (Q : QQ) (x4 : Int32) : Prop := ev E 45 0 [some (.ref 1), some (.int 2), some (.int (I 1 4))] [] I T (KV (fun I1 T1 => t_Text_takeNumber_61 E I1 T1 Q x4) (fun x I1 T1 => Q (.inr x) I1 T1))
theorem s_Text_takeNumber_56 {E : MEnv} {I : II} {T : TT} {Q : QQ} {x4 : Int32} (hq : t_Text_takeNumber_56 E I T Q x4) : ev E 47 56 [some (.ref 1), none, none, none, some (.int x4)] [] I T Q := by
  unfold t_Text_takeNumber_56 at hq
  refine ev_seq 4 (ip' := 60) (loc' := [some (.ref 1), none, none, none, some (.int x4)]) (st' := [(.int (I 1 4)), (.int 2), (.ref 1)]) (I1 := I) (T1 := T) rfl ?_
  refine ev_callV rfl rfl rfl (fun I1 T1 hq => ?_) (fun x I1 T1 hq => ?_) hq
  · refine ev_fg [false, true, true, true, true] (loc' := [none, none, none, none, some (.int x4)]) rfl ?_
    exact s_Text_takeNumber_61 (T := T1) hq
  · exact ⟨by decide, hq⟩
def t_Text_takeNumber_50 (E : MEnv) (I : II) (T : TT) (Q : QQ) (x1 : Int32) (x2 : Int32) (x4 : Int32) : Prop := (x4 < x1 → (t_Text_takeNumber_56 E I T Q x4)) ∧ (¬ (x4 < x1) → ((x4 ≤ x2 → (t_Text_takeNumber_61 E I T Q x4)) ∧ (¬ (x4 ≤ x2) → (t_Text_takeNumber_56 E I T Q x4))))
theorem s_Text_takeNumber_50 {E : MEnv} {I : II} {T : TT} {Q : QQ} {x1 : Int32} {x2 : Int32} {x4 : Int32} (hq : t_Text_takeNumber_50 E I T Q x1 x2 x4) : ev E 47 50 [some (.ref 1), some (.int x1), some (.int x2), none, some (.int x4)] [] I T Q := by
  unfold t_Text_takeNumber_50 at hq
  refine ev_seq 2 (ip' := 52) (loc' := [some (.ref 1), some (.int x1), some (.int x2), none, some (.int x4)]) (st' := [(.int x1), (.int x4)]) (I1 := I) (T1 := T) rfl ?_
  refine ev_br (p := x4 < x1) (a := 56) (b := 53) (st' := []) inferInstance rfl rfl (fun hb => ?_) (fun hb => ?_)
  · have hq := hq.1 hb
    refine ev_fg [true, false, false, true, true] (loc' := [some (.ref 1), none, none, none, some (.int x4)]) rfl ?_
    exact s_Text_takeNumber_56 (T := T) hq
  · have hq := hq.2 hb
    refine ev_seq 2 (ip' := 55) (loc' := [some (.ref 1), some (.int x1), some (.int x2), none, some (.int x4)]) (st' := [(.int x2), (.int x4)]) (I1 := I) (T1 := T) rfl ?_
    refine ev_br (p := x4 ≤ x2) (a := 61) (b := 56) (st' := []) inferInstance rfl rfl (fun hb => ?_) (fun hb => ?_)
    · have hq := hq.1 hb
      refine ev_fg [false, false, false, true, true] (loc' := [none, none, none, none, some (.int x4)]) rfl ?_
      exact s_Text_takeNumber_61 (T := T) hq
    · have hq := hq.2 hb
      refine ev_fg [true, false, false, true, true] (loc' := [some (.ref 1), none, none, none, some (.int x4)]) rfl ?_
      exact s_Text_takeNumber_56 (T := T) hq
def t_Text_takeNumber_19 (E : MEnv) (I : II) (T : TT) (Q : QQ) (x1 : Int32) (x2 : Int32) (x4 : Int32) : Prop := ((I 1 2) ≤ (I 1 3) → (t_Text_takeNumber_50 E I T Q x1 x2 x4)) ∧ (¬ ((I 1 2) ≤ (I 1 3)) → (ev E 35 0 [some (.ref 1), some (.int (I 1 3))] [] I T (KI (fun v1 I1 T1 => ev E 48 0 [some (.int v1)] [] I1 T1 (KI (fun v2 I2 T2 => (v2 = 0 → (t_Text_takeNumber_50 E I2 T2 Q x1 x2 x4)) ∧ (¬ (v2 = 0) → (ev E 35 0 [some (.ref 1), some (.int (I2 1 3))] [] I2 T2 (KI (fun v3 I3 T3 => ev E 47 19 [some (.ref 1), some (.int x1), some (.int x2), none, some (.int (if 10000 < (((x4 * 10) + v3) - 48) then 10000 else (((x4 * 10) + v3) - 48)))] [] (m_up I3 1 3 ((I3 1 3) + 1)) T3 Q) (fun x I1 T1 => Q (.inr x) I1 T1))))) (fun _ _ _ => False))) (fun x I1 T1 => Q (.inr x) I1 T1))))
theorem s_Text_takeNumber_19 {E : MEnv} {I : II} {T : TT} {Q : QQ} {x1 : Int32} {x2 : Int32} {x4 : Int32} (hq : t_Text_takeNumber_19 E I T Q x1 x2 x4) : ev E 47 19 [some (.ref 1), some (.int x1), some (.int x2), none, some (.int x4)] [] I T Q := by
  unfold t_Text_takeNumber_19 at hq
  refine ev_seq 4 (ip' := 23) (loc' := [some (.ref 1), some (.int x1), some (.int x2), none, some (.int x4)]) (st' := [(.int (I 1 2)), (.int (I 1 3))]) (I1 := I) (T1 := T) rfl ?_
  refine ev_br (p := (I 1 2) ≤ (I 1 3)) (a := 50) (b := 24) (st' := []) inferInstance rfl rfl (fun hb => ?_) (fun hb => ?_)
  · have hq := hq.1 hb
    exact s_Text_takeNumber_50 (T := T) hq
  · have hq := hq.2 hb
    refine ev_seq 3 (ip' := 27) (loc' := [some (.ref 1), some (.int x1), some (.int x2), none, some (.int x4)]) (st' := [(.int (I 1 3)), (.ref 1)]) (I1 := I) (T1 := T) rfl ?_
    refine ev_callI rfl rfl rfl (fun v1 I1 T1 hq => ?_) (fun x I1 T1 hq => ?_) hq
    · refine ev_callI rfl rfl rfl (fun v2 I2 T2 hq => ?_) (fun x I1 T1 hq => ?_) hq
      · refine ev_br (p := v2 = 0) (a := 50) (b := 30) (st' := []) inferInstance rfl rfl (fun hb => ?_) (fun hb => ?_)
        · have hq := hq.1 hb
          exact s_Text_takeNumber_50 (T := T2) hq
        · have hq := hq.2 hb
          refine ev_seq 6 (ip' := 36) (loc' := [some (.ref 1), some (.int x1), some (.int x2), none, some (.int x4)]) (st' := [(.int (I2 1 3)), (.ref 1), (.int (x4 * 10))]) (I1 := I2) (T1 := T2) rfl ?_
          refine ev_callI rfl rfl rfl (fun v3 I3 T3 hq => ?_) (fun x I1 T1 hq => ?_) hq
          · refine ev_seq 13 (ip' := 19) (loc' := [some (.ref 1), some (.int x1), some (.int x2), none, some (.int (if 10000 < (((x4 * 10) + v3) - 48) then 10000 else (((x4 * 10) + v3) - 48)))]) (st' := []) (I1 := m_up I3 1 3 ((I3 1 3) + 1)) (T1 := T3) rfl ?_
            exact hq
          · exact ⟨by decide, hq⟩
      · exact hq.elim
    · exact ⟨by decide, hq⟩
def t_Text_takeNumber_0 (E : MEnv) (I : II) (T : TT) (Q : QQ) (x1 : Int32) (x2 : Int32) : Prop := ev E 32 0 [some (.ref 1)] [] I T (KI (fun v1 I1 T1 => ev E 48 0 [some (.int v1)] [] (m_up I1 1 4 (I1 1 3)) T1 (KI (fun v2 I2 T2 => (v2 = 0 → (ev E 45 0 [some (.ref 1), some (.int 1), some (.int (I2 1 3))] [] I2 T2 (KV (fun I3 T3 => Q (.inl (some (.int x1))) I3 T3) (fun x I1 T1 => Q (.inr x) I1 T1)))) ∧ (¬ (v2 = 0) → (t_Text_takeNumber_19 E I2 T2 Q x1 x2 0))) (fun _ _ _ => False))) (fun x I1 T1 => Q (.inr x) I1 T1))
theorem s_Text_takeNumber_0 {E : MEnv} {I : II} {T : TT} {Q : QQ} {x1 : Int32} {x2 : Int32} (hq : t_Text_takeNumber_0 E I T Q x1 x2) : ev E 47 0 [some (.ref 1), some (.int x1), some (.int x2), none, none] [] I T Q := by
  unfold t_Text_takeNumber_0 at hq
  refine ev_seq 1 (ip' := 1) (loc' := [some (.ref 1), some (.int x1), some (.int x2), none, none]) (st' := [(.ref 1)]) (I1 := I) (T1 := T) rfl ?_
  refine ev_callI rfl rfl rfl (fun v1 I1 T1 hq => ?_) (fun x I1 T1 hq => ?_) hq
  · refine ev_seq 6 (ip' := 8) (loc' := [some (.ref 1), some (.int x1), some (.int x2), some (.int v1), none]) (st' := [(.int v1)]) (I1 := m_up I1 1 4 (I1 1 3)) (T1 := T1) rfl ?_
    refine ev_callI rfl rfl rfl (fun v2 I2 T2 hq => ?_) (fun x I1 T1 hq => ?_) hq
    · refine ev_br (p := v2 = 0) (a := 10) (b := 17) (st' := []) inferInstance rfl rfl (fun hb => ?_) (fun hb => ?_)
      · have hq := hq.1 hb
        refine ev_seq 4 (ip' := 14) (loc' := [some (.ref 1), some (.int x1), some (.int x2), some (.int v1), none]) (st' := [(.int (I2 1 3)), (.int 1), (.ref 1)]) (I1 := I2) (T1 := T2) rfl ?_
        refine ev_callV rfl rfl rfl (fun I3 T3 hq => ?_) (fun x I1 T1 hq => ?_) hq
        · refine ev_seq 1 (ip' := 16) (loc' := [some (.ref 1), some (.int x1), some (.int x2), some (.int v1), none]) (st' := [(.int x1)]) (I1 := I3) (T1 := T3) rfl ?_
          exact ev_ret rfl rfl hq
        · exact ⟨by decide, hq⟩
      · have hq := hq.2 hb
        refine ev_seq 2 (ip' := 19) (loc' := [some (.ref 1), some (.int x1), some (.int x2), some (.int v1), some (.int 0)]) (st' := []) (I1 := I2) (T1 := T2) rfl ?_
        refine ev_fg [true, true, true, false, true] (loc' := [some (.ref 1), some (.int x1), some (.int x2), none, some (.int 0)]) rfl ?_
        exact s_Text_takeNumber_19 (T := T2) hq
    · exact hq.elim
  · exact ⟨by decide, hq⟩
/-- FeltHarness$Text.takeSign(C)V -/
def t_Text_takeSign_12 (E : MEnv) (I : II) (T : TT) (Q : QQ) : Prop := Q (.inl none) I T
theorem s_Text_takeSign_12 {E : MEnv} {I : II} {T : TT} {Q : QQ} (hq : t_Text_takeSign_12 E I T Q) : ev E 51 12 [none, none] [] I T Q := by
  unfold t_Text_takeSign_12 at hq
  exact ev_ret rfl rfl hq
def t_Text_takeSign_0 (E : MEnv) (I : II) (T : TT) (Q : QQ) (x1 : Int32) : Prop := ev E 32 0 [some (.ref 1)] [] I T (KI (fun v1 I1 T1 => (v1 = x1 → (ev E 52 0 [some (.ref 1)] [] I1 T1 (KV (fun I2 T2 => t_Text_takeSign_12 E I2 T2 Q ) (fun x I1 T1 => Q (.inr x) I1 T1)))) ∧ (¬ (v1 = x1) → (ev E 45 0 [some (.ref 1), some (.int 1), some (.int (I1 1 3))] [] I1 T1 (KV (fun I3 T3 => t_Text_takeSign_12 E I3 T3 Q ) (fun x I1 T1 => Q (.inr x) I1 T1))))) (fun x I1 T1 => Q (.inr x) I1 T1))
theorem s_Text_takeSign_0 {E : MEnv} {I : II} {T : TT} {Q : QQ} {x1 : Int32} (hq : t_Text_takeSign_0 E I T Q x1) : ev E 51 0 [some (.ref 1), some (.int x1)] [] I T Q := by
  unfold t_Text_takeSign_0 at hq
  refine ev_seq 1 (ip' := 1) (loc' := [some (.ref 1), some (.int x1)]) (st' := [(.ref 1)]) (I1 := I) (T1 := T) rfl ?_
  refine ev_callI rfl rfl rfl (fun v1 I1 T1 hq => ?_) (fun x I1 T1 hq => ?_) hq
  · refine ev_seq 1 (ip' := 3) (loc' := [some (.ref 1), some (.int x1)]) (st' := [(.int x1), (.int v1)]) (I1 := I1) (T1 := T1) rfl ?_
    refine ev_br (p := v1 = x1) (a := 4) (b := 7) (st' := []) inferInstance rfl rfl (fun hb => ?_) (fun hb => ?_)
    · have hq := hq.1 hb
      refine ev_seq 1 (ip' := 5) (loc' := [some (.ref 1), some (.int x1)]) (st' := [(.ref 1)]) (I1 := I1) (T1 := T1) rfl ?_
      refine ev_callV rfl rfl rfl (fun I2 T2 hq => ?_) (fun x I1 T1 hq => ?_) hq
      · refine ev_seq 1 (ip' := 12) (loc' := [some (.ref 1), some (.int x1)]) (st' := []) (I1 := I2) (T1 := T2) rfl ?_
        refine ev_fg [false, false] (loc' := [none, none]) rfl ?_
        exact s_Text_takeSign_12 (T := T2) hq
      · exact ⟨by decide, hq⟩
    · have hq := hq.2 hb
      refine ev_seq 4 (ip' := 11) (loc' := [some (.ref 1), some (.int x1)]) (st' := [(.int (I1 1 3)), (.int 1), (.ref 1)]) (I1 := I1) (T1 := T1) rfl ?_
      refine ev_callV rfl rfl rfl (fun I3 T3 hq => ?_) (fun x I1 T1 hq => ?_) hq
      · refine ev_fg [false, false] (loc' := [none, none]) rfl ?_
        exact s_Text_takeSign_12 (T := T3) hq
      · exact ⟨by decide, hq⟩
  · exact ⟨by decide, hq⟩
/-- FeltHarness$Text.takeWord(Ljava/lang/String;)I -/
def t_Text_takeWord_1000003_53 (E : MEnv) (I : II) (T : TT) (Q : QQ) (x2 : Int32) (x3 : Int32) (x4 : Int32) : Prop := ev E 34 31 [some (.ref 1), some (.ref 1000003), some (.int x2), some (.int x3), some (.int (x4 + 1))] [] I T Q
theorem s_Text_takeWord_1000003_53 {E : MEnv} {I : II} {T : TT} {Q : QQ} {x2 : Int32} {x3 : Int32} {x4 : Int32} (hq : t_Text_takeWord_1000003_53 E I T Q x2 x3 x4) : ev E 34 53 [some (.ref 1), some (.ref 1000003), some (.int x2), some (.int x3), some (.int x4)] [] I T Q := by
  unfold t_Text_takeWord_1000003_53 at hq
  refine ev_seq 2 (ip' := 31) (loc' := [some (.ref 1), some (.ref 1000003), some (.int x2), some (.int x3), some (.int (x4 + 1))]) (st' := []) (I1 := I) (T1 := T) rfl ?_
  exact hq
def t_Text_takeWord_1000003_31 (E : MEnv) (I : II) (T : TT) (Q : QQ) (x2 : Int32) (x3 : Int32) (x4 : Int32) : Prop := ev E 37 0 [some (.ref 1000003)] [] I T (KI (fun v1 I1 T1 => (v1 ≤ x4 → (ev E 45 0 [some (.ref 1), some (.int 1), some (.int (I1 1 4))] [] I1 T1 (KV (fun I2 T2 => Q (.inl (some (.int (-1)))) I2 T2) (fun x I1 T1 => Q (.inr x) I1 T1)))) ∧ (¬ (v1 ≤ x4) → (ev E 39 0 [some (.ref 1000003), some (.int x4)] [] I1 T1 (KI (fun v3 I3 T3 => (v3 = 32 → (ev E 44 0 [some (.ref 1), some (.ref 1000003), some (.int x3), some (.int x4), none] [] I3 T3 (KI (fun v4 I4 T4 => (v4 = 0 → (t_Text_takeWord_1000003_53 E I4 T4 Q (x2 + 1) (x4 + 1) x4)) ∧ (¬ (v4 = 0) → (Q (.inl (some (.int x2))) I4 T4))) (fun x I1 T1 => Q (.inr x) I1 T1)))) ∧ (¬ (v3 = 32) → (t_Text_takeWord_1000003_53 E I3 T3 Q x2 x3 x4))) (fun x I1 T1 => Q (.inr x) I1 T1))))) (fun x I1 T1 => Q (.inr x) I1 T1))
theorem s_Text_takeWord_1000003_31 {E : MEnv} {I : II} {T : TT} {Q : QQ} {x2 : Int32} {x3 : Int32} {x4 : Int32} (hq : t_Text_takeWord_1000003_31 E I T Q x2 x3 x4) : ev E 34 31 [some (.ref 1), some (.ref 1000003), some (.int x2), some (.int x3), some (.int x4)] [] I T Q := by
  unfold t_Text_takeWord_1000003_31 at hq
  refine ev_seq 2 (ip' := 33) (loc' := [some (.ref 1), some (.ref 1000003), some (.int x2), some (.int x3), some (.int x4)]) (st' := [(.ref 1000003), (.int x4)]) (I1 := I) (T1 := T) rfl ?_
  refine ev_callI rfl rfl rfl (fun v1 I1 T1 hq => ?_) (fun x I1 T1 hq => ?_) hq
  · refine ev_br (p := v1 ≤ x4) (a := 55) (b := 35) (st' := []) inferInstance rfl rfl (fun hb => ?_) (fun hb => ?_)
    · have hq := hq.1 hb
      refine ev_seq 4 (ip' := 59) (loc' := [some (.ref 1), some (.ref 1000003), some (.int x2), some (.int x3), some (.int x4)]) (st' := [(.int (I1 1 4)), (.int 1), (.ref 1)]) (I1 := I1) (T1 := T1) rfl ?_
      refine ev_callV rfl rfl rfl (fun I2 T2 hq => ?_) (fun x I1 T1 hq => ?_) hq
      · refine ev_seq 1 (ip' := 61) (loc' := [some (.ref 1), some (.ref 1000003), some (.int x2), some (.int x3), some (.int x4)]) (st' := [(.int (-1))]) (I1 := I2) (T1 := T2) rfl ?_
        exact ev_ret rfl rfl hq
      · exact ⟨by decide, hq⟩
    · have hq := hq.2 hb
      refine ev_seq 2 (ip' := 37) (loc' := [some (.ref 1), some (.ref 1000003), some (.int x2), some (.int x3), some (.int x4)]) (st' := [(.int x4), (.ref 1000003)]) (I1 := I1) (T1 := T1) rfl ?_
      refine ev_callI rfl rfl rfl (fun v3 I3 T3 hq => ?_) (fun x I1 T1 hq => ?_) hq
      · refine ev_seq 1 (ip' := 39) (loc' := [some (.ref 1), some (.ref 1000003), some (.int x2), some (.int x3), some (.int x4)]) (st' := [(.int 32), (.int v3)]) (I1 := I3) (T1 := T3) rfl ?_
        refine ev_br (p := v3 = 32) (a := 40) (b := 53) (st' := []) inferInstance rfl rfl (fun hb => ?_) (fun hb => ?_)
        · have hq := hq.1 hb
          refine ev_seq 4 (ip' := 44) (loc' := [some (.ref 1), some (.ref 1000003), some (.int x2), some (.int x3), some (.int x4)]) (st' := [(.int x4), (.int x3), (.ref 1000003), (.ref 1)]) (I1 := I3) (T1 := T3) rfl ?_
          refine ev_callI rfl rfl rfl (fun v4 I4 T4 hq => ?_) (fun x I1 T1 hq => ?_) hq
          · refine ev_br (p := v4 = 0) (a := 48) (b := 46) (st' := []) inferInstance rfl rfl (fun hb => ?_) (fun hb => ?_)
            · have hq := hq.1 hb
              refine ev_seq 5 (ip' := 53) (loc' := [some (.ref 1), some (.ref 1000003), some (.int (x2 + 1)), some (.int (x4 + 1)), some (.int x4)]) (st' := []) (I1 := I4) (T1 := T4) rfl ?_
              exact s_Text_takeWord_1000003_53 (T := T4) hq
            · have hq := hq.2 hb
              refine ev_seq 1 (ip' := 47) (loc' := [some (.ref 1), some (.ref 1000003), some (.int x2), some (.int x3), some (.int x4)]) (st' := [(.int x2)]) (I1 := I4) (T1 := T4) rfl ?_
              exact ev_ret rfl rfl hq
          · exact ⟨by decide, hq⟩
        · have hq := hq.2 hb
          exact s_Text_takeWord_1000003_53 (T := T3) hq
      · exact ⟨by decide, hq⟩
  · exact ⟨by decide, hq⟩
def t_Text_takeWord_1000003_25 (E : MEnv) (I : II) (T : TT) (Q : QQ) : Prop := t_Text_takeWord_1000003_31 E I T Q 0 0 0
theorem s_Text_takeWord_1000003_25 {E : MEnv} {I : II} {T : TT} {Q : QQ} (hq : t_Text_takeWord_1000003_25 E I T Q) : ev E 34 25 [some (.ref 1), some (.ref 1000003), none, none, none] [] I T Q := by
  unfold t_Text_takeWord_1000003_25 at hq
  refine ev_seq 6 (ip' := 31) (loc' := [some (.ref 1), some (.ref 1000003), some (.int 0), some (.int 0), some (.int 0)]) (st' := []) (I1 := I) (T1 := T) rfl ?_
  exact s_Text_takeWord_1000003_31 (T := T) hq
def t_Text_takeWord_1000003_7 (E : MEnv) (I : II) (T : TT) (Q : QQ) : Prop := ((I 1 2) ≤ (I 1 3) → (t_Text_takeWord_1000003_25 E I T Q )) ∧ (¬ ((I 1 2) ≤ (I 1 3)) → (ev E 35 0 [some (.ref 1), some (.int (I 1 3))] [] I T (KI (fun v1 I1 T1 => ev E 36 0 [some (.int v1)] [] I1 T1 (KI (fun v2 I2 T2 => (v2 = 0 → (t_Text_takeWord_1000003_25 E I2 T2 Q )) ∧ (¬ (v2 = 0) → (ev E 34 7 [some (.ref 1), some (.ref 1000003), none, none, none] [] (m_up I2 1 3 ((I2 1 3) + 1)) T2 Q))) (fun _ _ _ => False))) (fun x I1 T1 => Q (.inr x) I1 T1))))
theorem s_Text_takeWord_1000003_7 {E : MEnv} {I : II} {T : TT} {Q : QQ} (hq : t_Text_takeWord_1000003_7 E I T Q) : ev E 34 7 [some (.ref 1), some (.ref 1000003), none, none, none] [] I T Q := by
  unfold t_Text_takeWord_1000003_7 at hq
  refine ev_seq 4 (ip' := 11) (loc' := [some (.ref 1), some (.ref 1000003), none, none, none]) (st' := [(.int (I 1 2)), (.int (I 1 3))]) (I1 := I) (T1 := T) rfl ?_
  refine ev_br (p := (I 1 2) ≤ (I 1 3)) (a := 25) (b := 12) (st' := []) inferInstance rfl rfl (fun hb => ?_) (fun hb => ?_)
  · have hq := hq.1 hb
    exact s_Text_takeWord_1000003_25 (T := T) hq
  · have hq := hq.2 hb
    refine ev_seq 3 (ip' := 15) (loc' := [some (.ref 1), some (.ref 1000003), none, none, none]) (st' := [(.int (I 1 3)), (.ref 1)]) (I1 := I) (T1 := T) rfl ?_
    refine ev_callI rfl rfl rfl (fun v1 I1 T1 hq => ?_) (fun x I1 T1 hq => ?_) hq
    · refine ev_callI rfl rfl rfl (fun v2 I2 T2 hq => ?_) (fun x I1 T1 hq => ?_) hq
      · refine ev_br (p := v2 = 0) (a := 25) (b := 18) (st' := []) inferInstance rfl rfl (fun hb => ?_) (fun hb => ?_)
        · have hq := hq.1 hb
          exact s_Text_takeWord_1000003_25 (T := T2) hq
        · have hq := hq.2 hb
          refine ev_seq 7 (ip' := 7) (loc' := [some (.ref 1), some (.ref 1000003), none, none, none]) (st' := []) (I1 := m_up I2 1 3 ((I2 1 3) + 1)) (T1 := T2) rfl ?_
          exact hq
      · exact hq.elim
    · exact ⟨by decide, hq⟩
def t_Text_takeWord_1000003_0 (E : MEnv) (I : II) (T : TT) (Q : QQ) : Prop := ev E 32 0 [some (.ref 1)] [] I T (KI (fun v1 I1 T1 => t_Text_takeWord_1000003_7 E (m_up I1 1 4 (I1 1 3)) T1 Q ) (fun x I1 T1 => Q (.inr x) I1 T1))
theorem s_Text_takeWord_1000003_0 {E : MEnv} {I : II} {T : TT} {Q : QQ} (hq : t_Text_takeWord_1000003_0 E I T Q) : ev E 34 0 [some (.ref 1), some (.ref 1000003), none, none, none] [] I T Q := by
  unfold t_Text_takeWord_1000003_0 at hq
  refine ev_seq 1 (ip' := 1) (loc' := [some (.ref 1), some (.ref 1000003), none, none, none]) (st' := [(.ref 1)]) (I1 := I) (T1 := T) rfl ?_
  refine ev_callI rfl rfl rfl (fun v1 I1 T1 hq => ?_) (fun x I1 T1 hq => ?_) hq
  · refine ev_seq 5 (ip' := 7) (loc' := [some (.ref 1), some (.ref 1000003), none, none, none]) (st' := []) (I1 := m_up I1 1 4 (I1 1 3)) (T1 := T1) rfl ?_
    exact s_Text_takeWord_1000003_7 (T := T1) hq
  · exact ⟨by decide, hq⟩
/-- FeltHarness$Text.takeWord(Ljava/lang/String;)I -/
def t_Text_takeWord_1000004_53 (E : MEnv) (I : II) (T : TT) (Q : QQ) (x2 : Int32) (x3 : Int32) (x4 : Int32) : Prop := ev E 34 31 [some (.ref 1), some (.ref 1000004), some (.int x2), some (.int x3), some (.int (x4 + 1))] [] I T Q
theorem s_Text_takeWord_1000004_53 {E : MEnv} {I : II} {T : TT} {Q : QQ} {x2 : Int32} {x3 : Int32} {x4 : Int32} (hq : t_Text_takeWord_1000004_53 E I T Q x2 x3 x4) : ev E 34 53 [some (.ref 1), some (.ref 1000004), some (.int x2), some (.int x3), some (.int x4)] [] I T Q := by
  unfold t_Text_takeWord_1000004_53 at hq
  refine ev_seq 2 (ip' := 31) (loc' := [some (.ref 1), some (.ref 1000004), some (.int x2), some (.int x3), some (.int (x4 + 1))]) (st' := []) (I1 := I) (T1 := T) rfl ?_
  exact hq
def t_Text_takeWord_1000004_31 (E : MEnv) (I : II) (T : TT) (Q : QQ) (x2 : Int32) (x3 : Int32) (x4 : Int32) : Prop := ev E 37 0 [some (.ref 1000004)] [] I T (KI (fun v1 I1 T1 => (v1 ≤ x4 → (ev E 45 0 [some (.ref 1), some (.int 1), some (.int (I1 1 4))] [] I1 T1 (KV (fun I2 T2 => Q (.inl (some (.int (-1)))) I2 T2) (fun x I1 T1 => Q (.inr x) I1 T1)))) ∧ (¬ (v1 ≤ x4) → (ev E 39 0 [some (.ref 1000004), some (.int x4)] [] I1 T1 (KI (fun v3 I3 T3 => (v3 = 32 → (ev E 44 0 [some (.ref 1), some (.ref 1000004), some (.int x3), some (.int x4), none] [] I3 T3 (KI (fun v4 I4 T4 => (v4 = 0 → (t_Text_takeWord_1000004_53 E I4 T4 Q (x2 + 1) (x4 + 1) x4)) ∧ (¬ (v4 = 0) → (Q (.inl (some (.int x2))) I4 T4))) (fun x I1 T1 => Q (.inr x) I1 T1)))) ∧ (¬ (v3 = 32) → (t_Text_takeWord_1000004_53 E I3 T3 Q x2 x3 x4))) (fun x I1 T1 => Q (.inr x) I1 T1))))) (fun x I1 T1 => Q (.inr x) I1 T1))
theorem s_Text_takeWord_1000004_31 {E : MEnv} {I : II} {T : TT} {Q : QQ} {x2 : Int32} {x3 : Int32} {x4 : Int32} (hq : t_Text_takeWord_1000004_31 E I T Q x2 x3 x4) : ev E 34 31 [some (.ref 1), some (.ref 1000004), some (.int x2), some (.int x3), some (.int x4)] [] I T Q := by
  unfold t_Text_takeWord_1000004_31 at hq
  refine ev_seq 2 (ip' := 33) (loc' := [some (.ref 1), some (.ref 1000004), some (.int x2), some (.int x3), some (.int x4)]) (st' := [(.ref 1000004), (.int x4)]) (I1 := I) (T1 := T) rfl ?_
  refine ev_callI rfl rfl rfl (fun v1 I1 T1 hq => ?_) (fun x I1 T1 hq => ?_) hq
  · refine ev_br (p := v1 ≤ x4) (a := 55) (b := 35) (st' := []) inferInstance rfl rfl (fun hb => ?_) (fun hb => ?_)
    · have hq := hq.1 hb
      refine ev_seq 4 (ip' := 59) (loc' := [some (.ref 1), some (.ref 1000004), some (.int x2), some (.int x3), some (.int x4)]) (st' := [(.int (I1 1 4)), (.int 1), (.ref 1)]) (I1 := I1) (T1 := T1) rfl ?_
      refine ev_callV rfl rfl rfl (fun I2 T2 hq => ?_) (fun x I1 T1 hq => ?_) hq
      · refine ev_seq 1 (ip' := 61) (loc' := [some (.ref 1), some (.ref 1000004), some (.int x2), some (.int x3), some (.int x4)]) (st' := [(.int (-1))]) (I1 := I2) (T1 := T2) rfl ?_
        exact ev_ret rfl rfl hq
      · exact ⟨by decide, hq⟩
    · have hq := hq.2 hb
      refine ev_seq 2 (ip' := 37) (loc' := [some (.ref 1), some (.ref 1000004), some (.int x2), some (.int x3), some (.int x4)]) (st' := [(.int x4), (.ref 1000004)]) (I1 := I1) (T1 := T1) rfl ?_
      refine ev_callI rfl rfl rfl (fun v3 I3 T3 hq => ?_) (fun x I1 T1 hq => ?_) hq
      · refine ev_seq 1 (ip' := 39) (loc' := [some (.ref 1), some (.ref 1000004), some (.int x2), some (.int x3), some (.int x4)]) (st' := [(.int 32), (.int v3)]) (I1 := I3) (T1 := T3) rfl ?_
        refine ev_br (p := v3 = 32) (a := 40) (b := 53) (st' := []) inferInstance rfl rfl (fun hb => ?_) (fun hb => ?_)
        · have hq := hq.1 hb
          refine ev_seq 4 (ip' := 44) (loc' := [some (.ref 1), some (.ref 1000004), some (.int x2), some (.int x3), some (.int x4)]) (st' := [(.int x4), (.int x3), (.ref 1000004), (.ref 1)]) (I1 := I3) (T1 := T3) rfl ?_
          refine ev_callI rfl rfl rfl (fun v4 I4 T4 hq => ?_) (fun x I1 T1 hq => ?_) hq
          · refine ev_br (p := v4 = 0) (a := 48) (b := 46) (st' := []) inferInstance rfl rfl (fun hb => ?_) (fun hb => ?_)
            · have hq := hq.1 hb
              refine ev_seq 5 (ip' := 53) (loc' := [some (.ref 1), some (.ref 1000004), some (.int (x2 + 1)), some (.int (x4 + 1)), some (.int x4)]) (st' := []) (I1 := I4) (T1 := T4) rfl ?_
              exact s_Text_takeWord_1000004_53 (T := T4) hq
            · have hq := hq.2 hb
              refine ev_seq 1 (ip' := 47) (loc' := [some (.ref 1), some (.ref 1000004), some (.int x2), some (.int x3), some (.int x4)]) (st' := [(.int x2)]) (I1 := I4) (T1 := T4) rfl ?_
              exact ev_ret rfl rfl hq
          · exact ⟨by decide, hq⟩
        · have hq := hq.2 hb
          exact s_Text_takeWord_1000004_53 (T := T3) hq
      · exact ⟨by decide, hq⟩
  · exact ⟨by decide, hq⟩
def t_Text_takeWord_1000004_25 (E : MEnv) (I : II) (T : TT) (Q : QQ) : Prop := t_Text_takeWord_1000004_31 E I T Q 0 0 0
theorem s_Text_takeWord_1000004_25 {E : MEnv} {I : II} {T : TT} {Q : QQ} (hq : t_Text_takeWord_1000004_25 E I T Q) : ev E 34 25 [some (.ref 1), some (.ref 1000004), none, none, none] [] I T Q := by
  unfold t_Text_takeWord_1000004_25 at hq
  refine ev_seq 6 (ip' := 31) (loc' := [some (.ref 1), some (.ref 1000004), some (.int 0), some (.int 0), some (.int 0)]) (st' := []) (I1 := I) (T1 := T) rfl ?_
  exact s_Text_takeWord_1000004_31 (T := T) hq
def t_Text_takeWord_1000004_7 (E : MEnv) (I : II) (T : TT) (Q : QQ) : Prop := ((I 1 2) ≤ (I 1 3) → (t_Text_takeWord_1000004_25 E I T Q )) ∧ (¬ ((I 1 2) ≤ (I 1 3)) → (ev E 35 0 [some (.ref 1), some (.int (I 1 3))] [] I T (KI (fun v1 I1 T1 => ev E 36 0 [some (.int v1)] [] I1 T1 (KI (fun v2 I2 T2 => (v2 = 0 → (t_Text_takeWord_1000004_25 E I2 T2 Q )) ∧ (¬ (v2 = 0) → (ev E 34 7 [some (.ref 1), some (.ref 1000004), none, none, none] [] (m_up I2 1 3 ((I2 1 3) + 1)) T2 Q))) (fun _ _ _ => False))) (fun x I1 T1 => Q (.inr x) I1 T1))))
theorem s_Text_takeWord_1000004_7 {E : MEnv} {I : II} {T : TT} {Q : QQ} (hq : t_Text_takeWord_1000004_7 E I T Q) : ev E 34 7 [some (.ref 1), some (.ref 1000004), none, none, none] [] I T Q := by
  unfold t_Text_takeWord_1000004_7 at hq
  refine ev_seq 4 (ip' := 11) (loc' := [some (.ref 1), some (.ref 1000004), none, none, none]) (st' := [(.int (I 1 2)), (.int (I 1 3))]) (I1 := I) (T1 := T) rfl ?_
  refine ev_br (p := (I 1 2) ≤ (I 1 3)) (a := 25) (b := 12) (st' := []) inferInstance rfl rfl (fun hb => ?_) (fun hb => ?_)
  · have hq := hq.1 hb
    exact s_Text_takeWord_1000004_25 (T := T) hq
  · have hq := hq.2 hb
    refine ev_seq 3 (ip' := 15) (loc' := [some (.ref 1), some (.ref 1000004), none, none, none]) (st' := [(.int (I 1 3)), (.ref 1)]) (I1 := I) (T1 := T) rfl ?_
    refine ev_callI rfl rfl rfl (fun v1 I1 T1 hq => ?_) (fun x I1 T1 hq => ?_) hq
    · refine ev_callI rfl rfl rfl (fun v2 I2 T2 hq => ?_) (fun x I1 T1 hq => ?_) hq
      · refine ev_br (p := v2 = 0) (a := 25) (b := 18) (st' := []) inferInstance rfl rfl (fun hb => ?_) (fun hb => ?_)
        · have hq := hq.1 hb
          exact s_Text_takeWord_1000004_25 (T := T2) hq
        · have hq := hq.2 hb
          refine ev_seq 7 (ip' := 7) (loc' := [some (.ref 1), some (.ref 1000004), none, none, none]) (st' := []) (I1 := m_up I2 1 3 ((I2 1 3) + 1)) (T1 := T2) rfl ?_
          exact hq
      · exact hq.elim
    · exact ⟨by decide, hq⟩
def t_Text_takeWord_1000004_0 (E : MEnv) (I : II) (T : TT) (Q : QQ) : Prop := ev E 32 0 [some (.ref 1)] [] I T (KI (fun v1 I1 T1 => t_Text_takeWord_1000004_7 E (m_up I1 1 4 (I1 1 3)) T1 Q ) (fun x I1 T1 => Q (.inr x) I1 T1))
theorem s_Text_takeWord_1000004_0 {E : MEnv} {I : II} {T : TT} {Q : QQ} (hq : t_Text_takeWord_1000004_0 E I T Q) : ev E 34 0 [some (.ref 1), some (.ref 1000004), none, none, none] [] I T Q := by
  unfold t_Text_takeWord_1000004_0 at hq
  refine ev_seq 1 (ip' := 1) (loc' := [some (.ref 1), some (.ref 1000004), none, none, none]) (st' := [(.ref 1)]) (I1 := I) (T1 := T) rfl ?_
  refine ev_callI rfl rfl rfl (fun v1 I1 T1 hq => ?_) (fun x I1 T1 hq => ?_) hq
  · refine ev_seq 5 (ip' := 7) (loc' := [some (.ref 1), some (.ref 1000004), none, none, none]) (st' := []) (I1 := m_up I1 1 4 (I1 1 3)) (T1 := T1) rfl ?_
    exact s_Text_takeWord_1000004_7 (T := T1) hq
  · exact ⟨by decide, hq⟩
/-- FeltHarness$Text.takeWord(Ljava/lang/String;)I -/
def t_Text_takeWord_1000005_53 (E : MEnv) (I : II) (T : TT) (Q : QQ) (x2 : Int32) (x3 : Int32) (x4 : Int32) : Prop := ev E 34 31 [some (.ref 1), some (.ref 1000005), some (.int x2), some (.int x3), some (.int (x4 + 1))] [] I T Q
theorem s_Text_takeWord_1000005_53 {E : MEnv} {I : II} {T : TT} {Q : QQ} {x2 : Int32} {x3 : Int32} {x4 : Int32} (hq : t_Text_takeWord_1000005_53 E I T Q x2 x3 x4) : ev E 34 53 [some (.ref 1), some (.ref 1000005), some (.int x2), some (.int x3), some (.int x4)] [] I T Q := by
  unfold t_Text_takeWord_1000005_53 at hq
  refine ev_seq 2 (ip' := 31) (loc' := [some (.ref 1), some (.ref 1000005), some (.int x2), some (.int x3), some (.int (x4 + 1))]) (st' := []) (I1 := I) (T1 := T) rfl ?_
  exact hq
def t_Text_takeWord_1000005_31 (E : MEnv) (I : II) (T : TT) (Q : QQ) (x2 : Int32) (x3 : Int32) (x4 : Int32) : Prop := ev E 37 0 [some (.ref 1000005)] [] I T (KI (fun v1 I1 T1 => (v1 ≤ x4 → (ev E 45 0 [some (.ref 1), some (.int 1), some (.int (I1 1 4))] [] I1 T1 (KV (fun I2 T2 => Q (.inl (some (.int (-1)))) I2 T2) (fun x I1 T1 => Q (.inr x) I1 T1)))) ∧ (¬ (v1 ≤ x4) → (ev E 39 0 [some (.ref 1000005), some (.int x4)] [] I1 T1 (KI (fun v3 I3 T3 => (v3 = 32 → (ev E 44 0 [some (.ref 1), some (.ref 1000005), some (.int x3), some (.int x4), none] [] I3 T3 (KI (fun v4 I4 T4 => (v4 = 0 → (t_Text_takeWord_1000005_53 E I4 T4 Q (x2 + 1) (x4 + 1) x4)) ∧ (¬ (v4 = 0) → (Q (.inl (some (.int x2))) I4 T4))) (fun x I1 T1 => Q (.inr x) I1 T1)))) ∧ (¬ (v3 = 32) → (t_Text_takeWord_1000005_53 E I3 T3 Q x2 x3 x4))) (fun x I1 T1 => Q (.inr x) I1 T1))))) (fun x I1 T1 => Q (.inr x) I1 T1))
theorem s_Text_takeWord_1000005_31 {E : MEnv} {I : II} {T : TT} {Q : QQ} {x2 : Int32} {x3 : Int32} {x4 : Int32} (hq : t_Text_takeWord_1000005_31 E I T Q x2 x3 x4) : ev E 34 31 [some (.ref 1), some (.ref 1000005), some (.int x2), some (.int x3), some (.int x4)] [] I T Q := by
  unfold t_Text_takeWord_1000005_31 at hq
  refine ev_seq 2 (ip' := 33) (loc' := [some (.ref 1), some (.ref 1000005), some (.int x2), some (.int x3), some (.int x4)]) (st' := [(.ref 1000005), (.int x4)]) (I1 := I) (T1 := T) rfl ?_
  refine ev_callI rfl rfl rfl (fun v1 I1 T1 hq => ?_) (fun x I1 T1 hq => ?_) hq
  · refine ev_br (p := v1 ≤ x4) (a := 55) (b := 35) (st' := []) inferInstance rfl rfl (fun hb => ?_) (fun hb => ?_)
    · have hq := hq.1 hb
      refine ev_seq 4 (ip' := 59) (loc' := [some (.ref 1), some (.ref 1000005), some (.int x2), some (.int x3), some (.int x4)]) (st' := [(.int (I1 1 4)), (.int 1), (.ref 1)]) (I1 := I1) (T1 := T1) rfl ?_
      refine ev_callV rfl rfl rfl (fun I2 T2 hq => ?_) (fun x I1 T1 hq => ?_) hq
      · refine ev_seq 1 (ip' := 61) (loc' := [some (.ref 1), some (.ref 1000005), some (.int x2), some (.int x3), some (.int x4)]) (st' := [(.int (-1))]) (I1 := I2) (T1 := T2) rfl ?_
        exact ev_ret rfl rfl hq
      · exact ⟨by decide, hq⟩
    · have hq := hq.2 hb
      refine ev_seq 2 (ip' := 37) (loc' := [some (.ref 1), some (.ref 1000005), some (.int x2), some (.int x3), some (.int x4)]) (st' := [(.int x4), (.ref 1000005)]) (I1 := I1) (T1 := T1) rfl ?_
      refine ev_callI rfl rfl rfl (fun v3 I3 T3 hq => ?_) (fun x I1 T1 hq => ?_) hq
      · refine ev_seq 1 (ip' := 39) (loc' := [some (.ref 1), some (.ref 1000005), some (.int x2), some (.int x3), some (.int x4)]) (st' := [(.int 32), (.int v3)]) (I1 := I3) (T1 := T3) rfl ?_
        refine ev_br (p := v3 = 32) (a := 40) (b := 53) (st' := []) inferInstance rfl rfl (fun hb => ?_) (fun hb => ?_)
        · have hq := hq.1 hb
          refine ev_seq 4 (ip' := 44) (loc' := [some (.ref 1), some (.ref 1000005), some (.int x2), some (.int x3), some (.int x4)]) (st' := [(.int x4), (.int x3), (.ref 1000005), (.ref 1)]) (I1 := I3) (T1 := T3) rfl ?_
          refine ev_callI rfl rfl rfl (fun v4 I4 T4 hq => ?_) (fun x I1 T1 hq => ?_) hq
          · refine ev_br (p := v4 = 0) (a := 48) (b := 46) (st' := []) inferInstance rfl rfl (fun hb => ?_) (fun hb => ?_)
            · have hq := hq.1 hb
              refine ev_seq 5 (ip' := 53) (loc' := [some (.ref 1), some (.ref 1000005), some (.int (x2 + 1)), some (.int (x4 + 1)), some (.int x4)]) (st' := []) (I1 := I4) (T1 := T4) rfl ?_
              exact s_Text_takeWord_1000005_53 (T := T4) hq
            · have hq := hq.2 hb
              refine ev_seq 1 (ip' := 47) (loc' := [some (.ref 1), some (.ref 1000005), some (.int x2), some (.int x3), some (.int x4)]) (st' := [(.int x2)]) (I1 := I4) (T1 := T4) rfl ?_
              exact ev_ret rfl rfl hq
          · exact ⟨by decide, hq⟩
        · have hq := hq.2 hb
          exact s_Text_takeWord_1000005_53 (T := T3) hq
      · exact ⟨by decide, hq⟩
  · exact ⟨by decide, hq⟩
def t_Text_takeWord_1000005_25 (E : MEnv) (I : II) (T : TT) (Q : QQ) : Prop := t_Text_takeWord_1000005_31 E I T Q 0 0 0
theorem s_Text_takeWord_1000005_25 {E : MEnv} {I : II} {T : TT} {Q : QQ} (hq : t_Text_takeWord_1000005_25 E I T Q) : ev E 34 25 [some (.ref 1), some (.ref 1000005), none, none, none] [] I T Q := by
  unfold t_Text_takeWord_1000005_25 at hq
  refine ev_seq 6 (ip' := 31) (loc' := [some (.ref 1), some (.ref 1000005), some (.int 0), some (.int 0), some (.int 0)]) (st' := []) (I1 := I) (T1 := T) rfl ?_
  exact s_Text_takeWord_1000005_31 (T := T) hq
def t_Text_takeWord_1000005_7 (E : MEnv) (I : II) (T : TT) (Q : QQ) : Prop := ((I 1 2) ≤ (I 1 3) → (t_Text_takeWord_1000005_25 E I T Q )) ∧ (¬ ((I 1 2) ≤ (I 1 3)) → (ev E 35 0 [some (.ref 1), some (.int (I 1 3))] [] I T (KI (fun v1 I1 T1 => ev E 36 0 [some (.int v1)] [] I1 T1 (KI (fun v2 I2 T2 => (v2 = 0 → (t_Text_takeWord_1000005_25 E I2 T2 Q )) ∧ (¬ (v2 = 0) → (ev E 34 7 [some (.ref 1), some (.ref 1000005), none, none, none] [] (m_up I2 1 3 ((I2 1 3) + 1)) T2 Q))) (fun _ _ _ => False))) (fun x I1 T1 => Q (.inr x) I1 T1))))
theorem s_Text_takeWord_1000005_7 {E : MEnv} {I : II} {T : TT} {Q : QQ} (hq : t_Text_takeWord_1000005_7 E I T Q) : ev E 34 7 [some (.ref 1), some (.ref 1000005), none, none, none] [] I T Q := by
  unfold t_Text_takeWord_1000005_7 at hq
  refine ev_seq 4 (ip' := 11) (loc' := [some (.ref 1), some (.ref 1000005), none, none, none]) (st' := [(.int (I 1 2)), (.int (I 1 3))]) (I1 := I) (T1 := T) rfl ?_
  refine ev_br (p := (I 1 2) ≤ (I 1 3)) (a := 25) (b := 12) (st' := []) inferInstance rfl rfl (fun hb => ?_) (fun hb => ?_)
  · have hq := hq.1 hb
    exact s_Text_takeWord_1000005_25 (T := T) hq
  · have hq := hq.2 hb
    refine ev_seq 3 (ip' := 15) (loc' := [some (.ref 1), some (.ref 1000005), none, none, none]) (st' := [(.int (I 1 3)), (.ref 1)]) (I1 := I) (T1 := T) rfl ?_
    refine ev_callI rfl rfl rfl (fun v1 I1 T1 hq => ?_) (fun x I1 T1 hq => ?_) hq
    · refine ev_callI rfl rfl rfl (fun v2 I2 T2 hq => ?_) (fun x I1 T1 hq => ?_) hq
      · refine ev_br (p := v2 = 0) (a := 25) (b := 18) (st' := []) inferInstance rfl rfl (fun hb => ?_) (fun hb => ?_)
        · have hq := hq.1 hb
          exact s_Text_takeWord_1000005_25 (T := T2) hq
        · have hq := hq.2 hb
          refine ev_seq 7 (ip' := 7) (loc' := [some (.ref 1), some (.ref 1000005), none, none, none]) (st' := []) (I1 := m_up I2 1 3 ((I2 1 3) + 1)) (T1 := T2) rfl ?_
          exact hq
      · exact hq.elim
    · exact ⟨by decide, hq⟩
def t_Text_takeWord_1000005_0 (E : MEnv) (I : II) (T : TT) (Q : QQ) : Prop := ev E 32 0 [some (.ref 1)] [] I T (KI (fun v1 I1 T1 => t_Text_takeWord_1000005_7 E (m_up I1 1 4 (I1 1 3)) T1 Q ) (fun x I1 T1 => Q (.inr x) I1 T1))
theorem s_Text_takeWord_1000005_0 {E : MEnv} {I : II} {T : TT} {Q : QQ} (hq : t_Text_takeWord_1000005_0 E I T Q) : ev E 34 0 [some (.ref 1), some (.ref 1000005), none, none, none] [] I T Q := by
  unfold t_Text_takeWord_1000005_0 at hq
  refine ev_seq 1 (ip' := 1) (loc' := [some (.ref 1), some (.ref 1000005), none, none, none]) (st' := [(.ref 1)]) (I1 := I) (T1 := T) rfl ?_
  refine ev_callI rfl rfl rfl (fun v1 I1 T1 hq => ?_) (fun x I1 T1 hq => ?_) hq
  · refine ev_seq 5 (ip' := 7) (loc' := [some (.ref 1), some (.ref 1000005), none, none, none]) (st' := []) (I1 := m_up I1 1 4 (I1 1 3)) (T1 := T1) rfl ?_
    exact s_Text_takeWord_1000005_7 (T := T1) hq
  · exact ⟨by decide, hq⟩
/-- FeltHarnessLaw.at(LFeltHarness;I[J)I -/
def t_W_at_9 (E : MEnv) (I : II) (T : TT) (Q : QQ) : Prop := Q (.inl (some (.int 1))) I T
theorem s_W_at_9 {E : MEnv} {I : II} {T : TT} {Q : QQ} (hq : t_W_at_9 E I T Q) : ev E 196 9 [none, none, none, none] [] I T Q := by
  unfold t_W_at_9 at hq
  refine ev_seq 1 (ip' := 10) (loc' := [none, none, none, none]) (st' := [(.int 1)]) (I1 := I) (T1 := T) rfl ?_
  exact ev_ret rfl rfl hq
def t_W_at_0 (E : MEnv) (I : II) (T : TT) (Q : QQ) (x1 : Int32) : Prop := ev E 197 0 [some (.ref 0), some (.int x1)] [] I T (KI (fun v1 I1 T1 => Q (.inl (some (.int 0))) I1 (m_up T1.1 536 0 v1.toInt64, T1.2)) (fun x I1 T1 => (x = 1 ∧ t_W_at_9 E I1 T1 Q)))
theorem s_W_at_0 {E : MEnv} {I : II} {T : TT} {Q : QQ} {x1 : Int32} (hq : t_W_at_0 E I T Q x1) : ev E 196 0 [some (.ref 0), some (.int x1), some (.ref 536), none] [] I T Q := by
  unfold t_W_at_0 at hq
  refine ev_seq 4 (ip' := 4) (loc' := [some (.ref 0), some (.int x1), some (.ref 536), none]) (st' := [(.int x1), (.ref 0), (.int 0), (.ref 536)]) (I1 := I) (T1 := T) rfl ?_
  refine ev_callI rfl rfl rfl (fun v1 I1 T1 hq => ?_) (fun x I1 T1 hq => ?_) hq
  · refine ev_seq 4 (ip' := 12) (loc' := [some (.ref 0), some (.int x1), some (.ref 536), none]) (st' := [(.int 0)]) (I1 := I1) (T1 := (m_up T1.1 536 0 v1.toInt64, T1.2)) rfl ?_
    exact ev_ret rfl rfl hq
  · obtain ⟨rfl, hq⟩ := hq
    exact ⟨by decide, s_W_at_9 hq⟩
/-- FeltHarnessLaw.book(LFeltHarness;I[J)I -/
def t_W_book_9 (E : MEnv) (I : II) (T : TT) (Q : QQ) : Prop := Q (.inl (some (.int 1))) I T
theorem s_W_book_9 {E : MEnv} {I : II} {T : TT} {Q : QQ} (hq : t_W_book_9 E I T Q) : ev E 169 9 [none, none, none, none] [] I T Q := by
  unfold t_W_book_9 at hq
  refine ev_seq 1 (ip' := 10) (loc' := [none, none, none, none]) (st' := [(.int 1)]) (I1 := I) (T1 := T) rfl ?_
  exact ev_ret rfl rfl hq
def t_W_book_0 (E : MEnv) (I : II) (T : TT) (Q : QQ) (x1 : Int32) : Prop := ev E 170 0 [some (.ref 0), some (.int x1)] [] I T (KI (fun v1 I1 T1 => Q (.inl (some (.int 0))) I1 (m_up T1.1 536 0 v1.toInt64, T1.2)) (fun x I1 T1 => (x = 1 ∧ t_W_book_9 E I1 T1 Q)))
theorem s_W_book_0 {E : MEnv} {I : II} {T : TT} {Q : QQ} {x1 : Int32} (hq : t_W_book_0 E I T Q x1) : ev E 169 0 [some (.ref 0), some (.int x1), some (.ref 536), none] [] I T Q := by
  unfold t_W_book_0 at hq
  refine ev_seq 4 (ip' := 4) (loc' := [some (.ref 0), some (.int x1), some (.ref 536), none]) (st' := [(.int x1), (.ref 0), (.int 0), (.ref 536)]) (I1 := I) (T1 := T) rfl ?_
  refine ev_callI rfl rfl rfl (fun v1 I1 T1 hq => ?_) (fun x I1 T1 hq => ?_) hq
  · refine ev_seq 4 (ip' := 12) (loc' := [some (.ref 0), some (.int x1), some (.ref 536), none]) (st' := [(.int 0)]) (I1 := I1) (T1 := (m_up T1.1 536 0 v1.toInt64, T1.2)) rfl ?_
    exact ev_ret rfl rfl hq
  · obtain ⟨rfl, hq⟩ := hq
    exact ⟨by decide, s_W_book_9 hq⟩
/-- FeltHarnessLaw.clashes(LFeltHarness;I[J)I -/
def t_W_clashes_9 (E : MEnv) (I : II) (T : TT) (Q : QQ) : Prop := Q (.inl (some (.int 1))) I T
theorem s_W_clashes_9 {E : MEnv} {I : II} {T : TT} {Q : QQ} (hq : t_W_clashes_9 E I T Q) : ev E 289 9 [none, none, none, none] [] I T Q := by
  unfold t_W_clashes_9 at hq
  refine ev_seq 1 (ip' := 10) (loc' := [none, none, none, none]) (st' := [(.int 1)]) (I1 := I) (T1 := T) rfl ?_
  exact ev_ret rfl rfl hq
def t_W_clashes_0 (E : MEnv) (I : II) (T : TT) (Q : QQ) (x1 : Int32) : Prop := ev E 290 0 [some (.ref 0), some (.int x1), none, none, none, none, none] [] I T (KI (fun v1 I1 T1 => Q (.inl (some (.int 0))) I1 (m_up T1.1 536 0 v1.toInt64, T1.2)) (fun x I1 T1 => (x = 1 ∧ t_W_clashes_9 E I1 T1 Q)))
theorem s_W_clashes_0 {E : MEnv} {I : II} {T : TT} {Q : QQ} {x1 : Int32} (hq : t_W_clashes_0 E I T Q x1) : ev E 289 0 [some (.ref 0), some (.int x1), some (.ref 536), none] [] I T Q := by
  unfold t_W_clashes_0 at hq
  refine ev_seq 4 (ip' := 4) (loc' := [some (.ref 0), some (.int x1), some (.ref 536), none]) (st' := [(.int x1), (.ref 0), (.int 0), (.ref 536)]) (I1 := I) (T1 := T) rfl ?_
  refine ev_callI rfl rfl rfl (fun v1 I1 T1 hq => ?_) (fun x I1 T1 hq => ?_) hq
  · refine ev_seq 4 (ip' := 12) (loc' := [some (.ref 0), some (.int x1), some (.ref 536), none]) (st' := [(.int 0)]) (I1 := I1) (T1 := (m_up T1.1 536 0 v1.toInt64, T1.2)) rfl ?_
    exact ev_ret rfl rfl hq
  · obtain ⟨rfl, hq⟩ := hq
    exact ⟨by decide, s_W_clashes_9 hq⟩
/-- FeltHarnessLaw.comes(LFeltHarness;I[J)I -/
def t_W_comes_9 (E : MEnv) (I : II) (T : TT) (Q : QQ) : Prop := Q (.inl (some (.int 1))) I T
theorem s_W_comes_9 {E : MEnv} {I : II} {T : TT} {Q : QQ} (hq : t_W_comes_9 E I T Q) : ev E 207 9 [none, none, none, none] [] I T Q := by
  unfold t_W_comes_9 at hq
  refine ev_seq 1 (ip' := 10) (loc' := [none, none, none, none]) (st' := [(.int 1)]) (I1 := I) (T1 := T) rfl ?_
  exact ev_ret rfl rfl hq
def t_W_comes_0 (E : MEnv) (I : II) (T : TT) (Q : QQ) (x1 : Int32) : Prop := ev E 208 0 [some (.ref 0), some (.int x1)] [] I T (KI (fun v1 I1 T1 => Q (.inl (some (.int 0))) I1 (m_up T1.1 536 0 v1.toInt64, T1.2)) (fun x I1 T1 => (x = 0 ∧ t_W_comes_9 E I1 T1 Q)))
theorem s_W_comes_0 {E : MEnv} {I : II} {T : TT} {Q : QQ} {x1 : Int32} (hq : t_W_comes_0 E I T Q x1) : ev E 207 0 [some (.ref 0), some (.int x1), some (.ref 536), none] [] I T Q := by
  unfold t_W_comes_0 at hq
  refine ev_seq 4 (ip' := 4) (loc' := [some (.ref 0), some (.int x1), some (.ref 536), none]) (st' := [(.int x1), (.ref 0), (.int 0), (.ref 536)]) (I1 := I) (T1 := T) rfl ?_
  refine ev_callI rfl rfl rfl (fun v1 I1 T1 hq => ?_) (fun x I1 T1 hq => ?_) hq
  · refine ev_seq 4 (ip' := 12) (loc' := [some (.ref 0), some (.int x1), some (.ref 536), none]) (st' := [(.int 0)]) (I1 := I1) (T1 := (m_up T1.1 536 0 v1.toInt64, T1.2)) rfl ?_
    exact ev_ret rfl rfl hq
  · obtain ⟨rfl, hq⟩ := hq
    exact ⟨by decide, s_W_comes_9 hq⟩
