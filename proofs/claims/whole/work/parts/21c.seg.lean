/-- java/lang/Integer.bitCount(I)I -/
def t_Integer_bitCount_0 (E : MEnv) (I : II) (T : TT) (Q : QQ) (x0 : Int32) : Prop := Q (.inl (some (.int ((((((((x0 - ((i_ushr x0 1) &&& 1431655765)) &&& 858993459) + ((i_ushr (x0 - ((i_ushr x0 1) &&& 1431655765)) 2) &&& 858993459)) + (i_ushr (((x0 - ((i_ushr x0 1) &&& 1431655765)) &&& 858993459) + ((i_ushr (x0 - ((i_ushr x0 1) &&& 1431655765)) 2) &&& 858993459)) 4)) &&& 252645135) + (i_ushr (((((x0 - ((i_ushr x0 1) &&& 1431655765)) &&& 858993459) + ((i_ushr (x0 - ((i_ushr x0 1) &&& 1431655765)) 2) &&& 858993459)) + (i_ushr (((x0 - ((i_ushr x0 1) &&& 1431655765)) &&& 858993459) + ((i_ushr (x0 - ((i_ushr x0 1) &&& 1431655765)) 2) &&& 858993459)) 4)) &&& 252645135) 8)) + (i_ushr ((((((x0 - ((i_ushr x0 1) &&& 1431655765)) &&& 858993459) + ((i_ushr (x0 - ((i_ushr x0 1) &&& 1431655765)) 2) &&& 858993459)) + (i_ushr (((x0 - ((i_ushr x0 1) &&& 1431655765)) &&& 858993459) + ((i_ushr (x0 - ((i_ushr x0 1) &&& 1431655765)) 2) &&& 858993459)) 4)) &&& 252645135) + (i_ushr (((((x0 - ((i_ushr x0 1) &&& 1431655765)) &&& 858993459) + ((i_ushr (x0 - ((i_ushr x0 1) &&& 1431655765)) 2) &&& 858993459)) + (i_ushr (((x0 - ((i_ushr x0 1) &&& 1431655765)) &&& 858993459) + ((i_ushr (x0 - ((i_ushr x0 1) &&& 1431655765)) 2) &&& 858993459)) 4)) &&& 252645135) 8)) 16)) &&& 63)))) I T
theorem s_Integer_bitCount_0 {E : MEnv} {I : II} {T : TT} {Q : QQ} {x0 : Int32} (hq : t_Integer_bitCount_0 E I T Q x0) : ev E 123 0 [some (.int x0)] [] I T Q := by
  unfold t_Integer_bitCount_0 at hq
  refine ev_seq 41 (ip' := 41) (loc' := [some (.int (((((((x0 - ((i_ushr x0 1) &&& 1431655765)) &&& 858993459) + ((i_ushr (x0 - ((i_ushr x0 1) &&& 1431655765)) 2) &&& 858993459)) + (i_ushr (((x0 - ((i_ushr x0 1) &&& 1431655765)) &&& 858993459) + ((i_ushr (x0 - ((i_ushr x0 1) &&& 1431655765)) 2) &&& 858993459)) 4)) &&& 252645135) + (i_ushr (((((x0 - ((i_ushr x0 1) &&& 1431655765)) &&& 858993459) + ((i_ushr (x0 - ((i_ushr x0 1) &&& 1431655765)) 2) &&& 858993459)) + (i_ushr (((x0 - ((i_ushr x0 1) &&& 1431655765)) &&& 858993459) + ((i_ushr (x0 - ((i_ushr x0 1) &&& 1431655765)) 2) &&& 858993459)) 4)) &&& 252645135) 8)) + (i_ushr ((((((x0 - ((i_ushr x0 1) &&& 1431655765)) &&& 858993459) + ((i_ushr (x0 - ((i_ushr x0 1) &&& 1431655765)) 2) &&& 858993459)) + (i_ushr (((x0 - ((i_ushr x0 1) &&& 1431655765)) &&& 858993459) + ((i_ushr (x0 - ((i_ushr x0 1) &&& 1431655765)) 2) &&& 858993459)) 4)) &&& 252645135) + (i_ushr (((((x0 - ((i_ushr x0 1) &&& 1431655765)) &&& 858993459) + ((i_ushr (x0 - ((i_ushr x0 1) &&& 1431655765)) 2) &&& 858993459)) + (i_ushr (((x0 - ((i_ushr x0 1) &&& 1431655765)) &&& 858993459) + ((i_ushr (x0 - ((i_ushr x0 1) &&& 1431655765)) 2) &&& 858993459)) 4)) &&& 252645135) 8)) 16)))]) (st' := [(.int ((((((((x0 - ((i_ushr x0 1) &&& 1431655765)) &&& 858993459) + ((i_ushr (x0 - ((i_ushr x0 1) &&& 1431655765)) 2) &&& 858993459)) + (i_ushr (((x0 - ((i_ushr x0 1) &&& 1431655765)) &&& 858993459) + ((i_ushr (x0 - ((i_ushr x0 1) &&& 1431655765)) 2) &&& 858993459)) 4)) &&& 252645135) + (i_ushr (((((x0 - ((i_ushr x0 1) &&& 1431655765)) &&& 858993459) + ((i_ushr (x0 - ((i_ushr x0 1) &&& 1431655765)) 2) &&& 858993459)) + (i_ushr (((x0 - ((i_ushr x0 1) &&& 1431655765)) &&& 858993459) + ((i_ushr (x0 - ((i_ushr x0 1) &&& 1431655765)) 2) &&& 858993459)) 4)) &&& 252645135) 8)) + (i_ushr ((((((x0 - ((i_ushr x0 1) &&& 1431655765)) &&& 858993459) + ((i_ushr (x0 - ((i_ushr x0 1) &&& 1431655765)) 2) &&& 858993459)) + (i_ushr (((x0 - ((i_ushr x0 1) &&& 1431655765)) &&& 858993459) + ((i_ushr (x0 - ((i_ushr x0 1) &&& 1431655765)) 2) &&& 858993459)) 4)) &&& 252645135) + (i_ushr (((((x0 - ((i_ushr x0 1) &&& 1431655765)) &&& 858993459) + ((i_ushr (x0 - ((i_ushr x0 1) &&& 1431655765)) 2) &&& 858993459)) + (i_ushr (((x0 - ((i_ushr x0 1) &&& 1431655765)) &&& 858993459) + ((i_ushr (x0 - ((i_ushr x0 1) &&& 1431655765)) 2) &&& 858993459)) 4)) &&& 252645135) 8)) 16)) &&& 63))]) (I1 := I) (T1 := T) rfl ?_
  exact ev_ret rfl rfl hq
/-- java/lang/StringLatin1.charAt([BI)C -/
def t_Lat_charAt_1000103_0 (E : MEnv) (I : II) (T : TT) (Q : QQ) (x1 : Int32) : Prop := ev E 42 0 [some (.int x1), some (.int 26)] [] I T (KV (fun I1 T1 => (¬ x1 < 0 ∧ x1.toNatClampNeg < 26) ∧ ((((((((m_str 3).getD x1.toNatClampNeg 0) &&& 255).toUInt32 % 65536).toInt32).toUInt32 % 65536).toInt32 = (((((m_str 3).getD x1.toNatClampNeg 0) &&& 255).toUInt32 % 65536).toInt32)) ∧ Q (.inl (some (.int (((((m_str 3).getD x1.toNatClampNeg 0) &&& 255).toUInt32 % 65536).toInt32)))) I1 T1)) (fun _ _ _ => False))
theorem s_Lat_charAt_1000103_0 {E : MEnv} {I : II} {T : TT} {Q : QQ} {x1 : Int32} (hq : t_Lat_charAt_1000103_0 E I T Q x1) : ev E 41 0 [some (.ref 1000103), some (.int x1)] [] I T Q := by
  unfold t_Lat_charAt_1000103_0 at hq
  refine ev_seq 3 (ip' := 3) (loc' := [some (.ref 1000103), some (.int x1)]) (st' := [(.int 26), (.int x1)]) (I1 := I) (T1 := T) rfl ?_
  refine ev_callV rfl rfl rfl (fun I1 T1 hq => ?_) (fun x I1 T1 hq => ?_) hq
  · refine ev_seq 2 (ip' := 6) (loc' := [some (.ref 1000103), some (.int x1)]) (st' := [(.int x1), (.ref 1000103)]) (I1 := I1) (T1 := T1) rfl ?_
    obtain ⟨hg, hq⟩ := hq
    refine ev_sald rfl rfl hg ?_
    refine ev_seq 3 (ip' := 10) (loc' := [some (.ref 1000103), some (.int x1)]) (st' := [(.int (((((m_str 3).getD x1.toNatClampNeg 0) &&& 255).toUInt32 % 65536).toInt32))]) (I1 := I1) (T1 := T1) rfl ?_
    exact ev_ret rfl (ev_rcc rfl hq.1) hq.2
  · exact hq.elim
/-- java/lang/StringLatin1.charAt([BI)C -/
def t_Lat_charAt_1000104_0 (E : MEnv) (I : II) (T : TT) (Q : QQ) (x1 : Int32) : Prop := ev E 42 0 [some (.int x1), some (.int 56)] [] I T (KV (fun I1 T1 => (¬ x1 < 0 ∧ x1.toNatClampNeg < 56) ∧ ((((((((m_str 4).getD x1.toNatClampNeg 0) &&& 255).toUInt32 % 65536).toInt32).toUInt32 % 65536).toInt32 = (((((m_str 4).getD x1.toNatClampNeg 0) &&& 255).toUInt32 % 65536).toInt32)) ∧ Q (.inl (some (.int (((((m_str 4).getD x1.toNatClampNeg 0) &&& 255).toUInt32 % 65536).toInt32)))) I1 T1)) (fun _ _ _ => False))
theorem s_Lat_charAt_1000104_0 {E : MEnv} {I : II} {T : TT} {Q : QQ} {x1 : Int32} (hq : t_Lat_charAt_1000104_0 E I T Q x1) : ev E 41 0 [some (.ref 1000104), some (.int x1)] [] I T Q := by
  unfold t_Lat_charAt_1000104_0 at hq
  refine ev_seq 3 (ip' := 3) (loc' := [some (.ref 1000104), some (.int x1)]) (st' := [(.int 56), (.int x1)]) (I1 := I) (T1 := T) rfl ?_
  refine ev_callV rfl rfl rfl (fun I1 T1 hq => ?_) (fun x I1 T1 hq => ?_) hq
  · refine ev_seq 2 (ip' := 6) (loc' := [some (.ref 1000104), some (.int x1)]) (st' := [(.int x1), (.ref 1000104)]) (I1 := I1) (T1 := T1) rfl ?_
    obtain ⟨hg, hq⟩ := hq
    refine ev_sald rfl rfl hg ?_
    refine ev_seq 3 (ip' := 10) (loc' := [some (.ref 1000104), some (.int x1)]) (st' := [(.int (((((m_str 4).getD x1.toNatClampNeg 0) &&& 255).toUInt32 % 65536).toInt32))]) (I1 := I1) (T1 := T1) rfl ?_
    exact ev_ret rfl (ev_rcc rfl hq.1) hq.2
  · exact hq.elim
/-- java/lang/StringLatin1.charAt([BI)C -/
def t_Lat_charAt_1000105_0 (E : MEnv) (I : II) (T : TT) (Q : QQ) (x1 : Int32) : Prop := ev E 42 0 [some (.int x1), some (.int 35)] [] I T (KV (fun I1 T1 => (¬ x1 < 0 ∧ x1.toNatClampNeg < 35) ∧ ((((((((m_str 5).getD x1.toNatClampNeg 0) &&& 255).toUInt32 % 65536).toInt32).toUInt32 % 65536).toInt32 = (((((m_str 5).getD x1.toNatClampNeg 0) &&& 255).toUInt32 % 65536).toInt32)) ∧ Q (.inl (some (.int (((((m_str 5).getD x1.toNatClampNeg 0) &&& 255).toUInt32 % 65536).toInt32)))) I1 T1)) (fun _ _ _ => False))
theorem s_Lat_charAt_1000105_0 {E : MEnv} {I : II} {T : TT} {Q : QQ} {x1 : Int32} (hq : t_Lat_charAt_1000105_0 E I T Q x1) : ev E 41 0 [some (.ref 1000105), some (.int x1)] [] I T Q := by
  unfold t_Lat_charAt_1000105_0 at hq
  refine ev_seq 3 (ip' := 3) (loc' := [some (.ref 1000105), some (.int x1)]) (st' := [(.int 35), (.int x1)]) (I1 := I) (T1 := T) rfl ?_
  refine ev_callV rfl rfl rfl (fun I1 T1 hq => ?_) (fun x I1 T1 hq => ?_) hq
  · refine ev_seq 2 (ip' := 6) (loc' := [some (.ref 1000105), some (.int x1)]) (st' := [(.int x1), (.ref 1000105)]) (I1 := I1) (T1 := T1) rfl ?_
    obtain ⟨hg, hq⟩ := hq
    refine ev_sald rfl rfl hg ?_
    refine ev_seq 3 (ip' := 10) (loc' := [some (.ref 1000105), some (.int x1)]) (st' := [(.int (((((m_str 5).getD x1.toNatClampNeg 0) &&& 255).toUInt32 % 65536).toInt32))]) (I1 := I1) (T1 := T1) rfl ?_
    exact ev_ret rfl (ev_rcc rfl hq.1) hq.2
  · exact hq.elim
/-- FeltHarness$Law.accept()V -/
def t_Law_accept_0 (E : MEnv) (I : II) (T : TT) (Q : QQ) : Prop := Q (.inl none) (m_up (m_row I 16 (va_cpy (I 17) (I 16) 0 0 150)) 15 4 ((m_row I 16 (va_cpy (I 17) (I 16) 0 0 150)) 15 5)) T
theorem s_Law_accept_0 {E : MEnv} {I : II} {T : TT} {Q : QQ} (hq : t_Law_accept_0 E I T Q) : ev E 7 0 [some (.ref 15)] [] I T Q := by
  unfold t_Law_accept_0 at hq
  refine ev_seq 12 (ip' := 12) (loc' := [some (.ref 15)]) (st' := []) (I1 := m_up (m_row I 16 (va_cpy (I 17) (I 16) 0 0 150)) 15 4 ((m_row I 16 (va_cpy (I 17) (I 16) 0 0 150)) 15 5)) (T1 := T) rfl ?_
  exact ev_ret rfl rfl hq
/-- FeltHarness$Law.answer()I -/
def t_Law_answer_70 (E : MEnv) (I : II) (T : TT) (Q : QQ) : Prop := Q (.inl (some (.int (if 0 < (if (I 19 0) < 60 then (I 19 0) else 60) then (if (I 19 0) < 60 then (I 19 0) else 60) else 0)))) I T
theorem s_Law_answer_70 {E : MEnv} {I : II} {T : TT} {Q : QQ} (hq : t_Law_answer_70 E I T Q) : ev E 130 70 [some (.ref 15), none, none, none] [] I T Q := by
  unfold t_Law_answer_70 at hq
  refine ev_seq 8 (ip' := 78) (loc' := [some (.ref 15), none, none, none]) (st' := [(.int (if 0 < (if (I 19 0) < 60 then (I 19 0) else 60) then (if (I 19 0) < 60 then (I 19 0) else 60) else 0))]) (I1 := I) (T1 := T) rfl ?_
  exact ev_ret rfl rfl hq
def t_Law_answer_68 (E : MEnv) (I : II) (T : TT) (Q : QQ) (x1 : Int32) (x2 : Int32) : Prop := ev E 130 4 [some (.ref 15), some (.int x1), some (.int (x2 + 1)), none] [] I T Q
theorem s_Law_answer_68 {E : MEnv} {I : II} {T : TT} {Q : QQ} {x1 : Int32} {x2 : Int32} (hq : t_Law_answer_68 E I T Q x1 x2) : ev E 130 68 [some (.ref 15), some (.int x1), some (.int x2), none] [] I T Q := by
  unfold t_Law_answer_68 at hq
  refine ev_seq 2 (ip' := 4) (loc' := [some (.ref 15), some (.int x1), some (.int (x2 + 1)), none]) (st' := []) (I1 := I) (T1 := T) rfl ?_
  exact hq
def t_Law_answer_66 (E : MEnv) (I : II) (T : TT) (Q : QQ) (x1 : Int32) (x2 : Int32) (y1 : Int32) (y2 : Int32) : Prop := (¬ y1 < 0 ∧ y1.toNatClampNeg < 24) ∧ (t_Law_answer_68 E (m_up I 19 y1.toNatClampNeg y2) T Q (x1 + 1) x2)
theorem s_Law_answer_66 {E : MEnv} {I : II} {T : TT} {Q : QQ} {x1 : Int32} {x2 : Int32} {y1 : Int32} {y2 : Int32} (hq : t_Law_answer_66 E I T Q x1 x2 y1 y2) : ev E 130 66 [some (.ref 15), some (.int x1), some (.int x2), none] [(.int y2), (.int y1), (.ref 19)] I T Q := by
  unfold t_Law_answer_66 at hq
  obtain ⟨hg, hq⟩ := hq
  refine ev_iast rfl rfl hg ?_
  refine ev_seq 1 (ip' := 68) (loc' := [some (.ref 15), some (.int (x1 + 1)), some (.int x2), none]) (st' := []) (I1 := m_up I 19 y1.toNatClampNeg y2) (T1 := T) rfl ?_
  exact s_Law_answer_68 (T := T) hq
def t_Law_answer_4 (E : MEnv) (I : II) (T : TT) (Q : QQ) (x1 : Int32) (x2 : Int32) : Prop := ((I 15 4) ≤ x2 → (t_Law_answer_70 E I T Q )) ∧ (¬ ((I 15 4) ≤ x2) → ((150 ≤ x2 → (t_Law_answer_70 E I T Q )) ∧ (¬ (150 ≤ x2) → ((¬ x2 < 0 ∧ x2.toNatClampNeg < 150) ∧ (((-9) < (I 16 x2.toNatClampNeg) → ((24 ≤ x1 → (t_Law_answer_68 E I T Q x1 x2)) ∧ (¬ (24 ≤ x1) → (((I 16 x2.toNatClampNeg) < 0 → (ev E 132 0 [some (.ref 15), some (.int ((-1) - (I 16 x2.toNatClampNeg)))] [] I T (KI (fun v1 I1 T1 => t_Law_answer_66 E I1 T1 Q x1 x2 x1 v1) (fun x I1 T1 => Q (.inr x) I1 T1)))) ∧ (¬ ((I 16 x2.toNatClampNeg) < 0) → (t_Law_answer_66 E I T Q x1 x2 x1 (I 16 x2.toNatClampNeg))))))) ∧ (¬ ((-9) < (I 16 x2.toNatClampNeg)) → ((x1 < 2 → (t_Law_answer_68 E I T Q x1 x2)) ∧ (¬ (x1 < 2) → ((24 < x1 → (t_Law_answer_68 E I T Q x1 x2)) ∧ (¬ (24 < x1) → ((¬ ((x1 + (-1)) - 1) < 0 ∧ ((x1 + (-1)) - 1).toNatClampNeg < 24) ∧ ((¬ (x1 + (-1)) < 0 ∧ (x1 + (-1)).toNatClampNeg < 24) ∧ (ev E 131 0 [some (.int (I 16 x2.toNatClampNeg)), some (.int (I 19 ((x1 + (-1)) - 1).toNatClampNeg)), some (.int (I 19 (x1 + (-1)).toNatClampNeg))] [] I T (KI (fun v2 I2 T2 => (¬ ((x1 + (-1)) - 1) < 0 ∧ ((x1 + (-1)) - 1).toNatClampNeg < 24) ∧ (t_Law_answer_68 E (m_up I2 19 ((x1 + (-1)) - 1).toNatClampNeg v2) T2 Q (x1 + (-1)) x2)) (fun _ _ _ => False)))))))))))))))
theorem s_Law_answer_4 {E : MEnv} {I : II} {T : TT} {Q : QQ} {x1 : Int32} {x2 : Int32} (hq : t_Law_answer_4 E I T Q x1 x2) : ev E 130 4 [some (.ref 15), some (.int x1), some (.int x2), none] [] I T Q := by
  unfold t_Law_answer_4 at hq
  refine ev_seq 3 (ip' := 7) (loc' := [some (.ref 15), some (.int x1), some (.int x2), none]) (st' := [(.int (I 15 4)), (.int x2)]) (I1 := I) (T1 := T) rfl ?_
  refine ev_br (p := (I 15 4) ≤ x2) (a := 70) (b := 8) (st' := []) inferInstance rfl rfl (fun hb => ?_) (fun hb => ?_)
  · have hq := hq.1 hb
    refine ev_fg [true, false, false, true] (loc' := [some (.ref 15), none, none, none]) rfl ?_
    exact s_Law_answer_70 (T := T) hq
  · have hq := hq.2 hb
    refine ev_seq 4 (ip' := 12) (loc' := [some (.ref 15), some (.int x1), some (.int x2), none]) (st' := [(.int 150), (.int x2)]) (I1 := I) (T1 := T) rfl ?_
    refine ev_br (p := 150 ≤ x2) (a := 70) (b := 13) (st' := []) inferInstance rfl rfl (fun hb => ?_) (fun hb => ?_)
    · have hq := hq.1 hb
      refine ev_fg [true, false, false, true] (loc' := [some (.ref 15), none, none, none]) rfl ?_
      exact s_Law_answer_70 (T := T) hq
    · have hq := hq.2 hb
      refine ev_seq 3 (ip' := 16) (loc' := [some (.ref 15), some (.int x1), some (.int x2), none]) (st' := [(.int x2), (.ref 16)]) (I1 := I) (T1 := T) rfl ?_
      obtain ⟨hg, hq⟩ := hq
      refine ev_iald rfl rfl hg ?_
      refine ev_seq 3 (ip' := 20) (loc' := [some (.ref 15), some (.int x1), some (.int x2), some (.int (I 16 x2.toNatClampNeg))]) (st' := [(.int (-9)), (.int (I 16 x2.toNatClampNeg))]) (I1 := I) (T1 := T) rfl ?_
      refine ev_br (p := (-9) < (I 16 x2.toNatClampNeg)) (a := 49) (b := 21) (st' := []) inferInstance rfl rfl (fun hb => ?_) (fun hb => ?_)
      · have hq := hq.1 hb
        refine ev_seq 4 (ip' := 53) (loc' := [some (.ref 15), some (.int x1), some (.int x2), some (.int (I 16 x2.toNatClampNeg))]) (st' := [(.int 24), (.int x1)]) (I1 := I) (T1 := T) rfl ?_
        refine ev_br (p := 24 ≤ x1) (a := 68) (b := 54) (st' := []) inferInstance rfl rfl (fun hb => ?_) (fun hb => ?_)
        · have hq := hq.1 hb
          refine ev_fg [true, true, true, false] (loc' := [some (.ref 15), some (.int x1), some (.int x2), none]) rfl ?_
          exact s_Law_answer_68 (T := T) hq
        · have hq := hq.2 hb
          refine ev_seq 4 (ip' := 58) (loc' := [some (.ref 15), some (.int x1), some (.int x2), some (.int (I 16 x2.toNatClampNeg))]) (st' := [(.int (I 16 x2.toNatClampNeg)), (.int x1), (.ref 19)]) (I1 := I) (T1 := T) rfl ?_
          refine ev_br (p := (I 16 x2.toNatClampNeg) < 0) (a := 61) (b := 59) (st' := [(.int x1), (.ref 19)]) inferInstance rfl rfl (fun hb => ?_) (fun hb => ?_)
          · have hq := hq.1 hb
            refine ev_seq 4 (ip' := 65) (loc' := [some (.ref 15), some (.int x1), some (.int x2), some (.int (I 16 x2.toNatClampNeg))]) (st' := [(.int ((-1) - (I 16 x2.toNatClampNeg))), (.ref 15), (.int x1), (.ref 19)]) (I1 := I) (T1 := T) rfl ?_
            refine ev_callI rfl rfl rfl (fun v1 I1 T1 hq => ?_) (fun x I1 T1 hq => ?_) hq
            · refine ev_fg [true, true, true, false] (loc' := [some (.ref 15), some (.int x1), some (.int x2), none]) rfl ?_
              exact s_Law_answer_66 (T := T1) hq
            · exact ⟨by decide, hq⟩
          · have hq := hq.2 hb
            refine ev_seq 2 (ip' := 66) (loc' := [some (.ref 15), some (.int x1), some (.int x2), some (.int (I 16 x2.toNatClampNeg))]) (st' := [(.int (I 16 x2.toNatClampNeg)), (.int x1), (.ref 19)]) (I1 := I) (T1 := T) rfl ?_
            refine ev_fg [true, true, true, false] (loc' := [some (.ref 15), some (.int x1), some (.int x2), none]) rfl ?_
            exact s_Law_answer_66 (T := T) hq
      · have hq := hq.2 hb
        refine ev_seq 2 (ip' := 23) (loc' := [some (.ref 15), some (.int x1), some (.int x2), some (.int (I 16 x2.toNatClampNeg))]) (st' := [(.int 2), (.int x1)]) (I1 := I) (T1 := T) rfl ?_
        refine ev_br (p := x1 < 2) (a := 68) (b := 24) (st' := []) inferInstance rfl rfl (fun hb => ?_) (fun hb => ?_)
        · have hq := hq.1 hb
          refine ev_fg [true, true, true, false] (loc' := [some (.ref 15), some (.int x1), some (.int x2), none]) rfl ?_
          exact s_Law_answer_68 (T := T) hq
        · have hq := hq.2 hb
          refine ev_seq 4 (ip' := 28) (loc' := [some (.ref 15), some (.int x1), some (.int x2), some (.int (I 16 x2.toNatClampNeg))]) (st' := [(.int 24), (.int x1)]) (I1 := I) (T1 := T) rfl ?_
          refine ev_br (p := 24 < x1) (a := 68) (b := 29) (st' := []) inferInstance rfl rfl (fun hb => ?_) (fun hb => ?_)
          · have hq := hq.1 hb
            refine ev_fg [true, true, true, false] (loc' := [some (.ref 15), some (.int x1), some (.int x2), none]) rfl ?_
            exact s_Law_answer_68 (T := T) hq
          · have hq := hq.2 hb
            refine ev_seq 12 (ip' := 41) (loc' := [some (.ref 15), some (.int (x1 + (-1))), some (.int x2), some (.int (I 16 x2.toNatClampNeg))]) (st' := [(.int ((x1 + (-1)) - 1)), (.ref 19), (.int (I 16 x2.toNatClampNeg)), (.int ((x1 + (-1)) - 1)), (.ref 19)]) (I1 := I) (T1 := T) rfl ?_
            obtain ⟨hg, hq⟩ := hq
            refine ev_iald rfl rfl hg ?_
            refine ev_seq 3 (ip' := 45) (loc' := [some (.ref 15), some (.int (x1 + (-1))), some (.int x2), some (.int (I 16 x2.toNatClampNeg))]) (st' := [(.int (x1 + (-1))), (.ref 19), (.int (I 19 ((x1 + (-1)) - 1).toNatClampNeg)), (.int (I 16 x2.toNatClampNeg)), (.int ((x1 + (-1)) - 1)), (.ref 19)]) (I1 := I) (T1 := T) rfl ?_
            obtain ⟨hg, hq⟩ := hq
            refine ev_iald rfl rfl hg ?_
            refine ev_callI rfl rfl rfl (fun v2 I2 T2 hq => ?_) (fun x I1 T1 hq => ?_) hq
            · obtain ⟨hg, hq⟩ := hq
              refine ev_iast rfl rfl hg ?_
              refine ev_seq 1 (ip' := 68) (loc' := [some (.ref 15), some (.int (x1 + (-1))), some (.int x2), some (.int (I 16 x2.toNatClampNeg))]) (st' := []) (I1 := m_up I2 19 ((x1 + (-1)) - 1).toNatClampNeg v2) (T1 := T2) rfl ?_
              refine ev_fg [true, true, true, false] (loc' := [some (.ref 15), some (.int (x1 + (-1))), some (.int x2), none]) rfl ?_
              exact s_Law_answer_68 (T := T2) hq
            · exact hq.elim
def t_Law_answer_0 (E : MEnv) (I : II) (T : TT) (Q : QQ) : Prop := t_Law_answer_4 E I T Q 0 0
theorem s_Law_answer_0 {E : MEnv} {I : II} {T : TT} {Q : QQ} (hq : t_Law_answer_0 E I T Q) : ev E 130 0 [some (.ref 15), none, none, none] [] I T Q := by
  unfold t_Law_answer_0 at hq
  refine ev_seq 4 (ip' := 4) (loc' := [some (.ref 15), some (.int 0), some (.int 0), none]) (st' := []) (I1 := I) (T1 := T) rfl ?_
  exact s_Law_answer_4 (T := T) hq
/-- FeltHarness$Law.clear()V -/
def t_Law_clear_0 (E : MEnv) (I : II) (T : TT) (Q : QQ) : Prop := ev E 6 0 [some (.ref 15), some (.int (-1))] [] (m_up I 15 5 0) T (KV (fun I1 T1 => ev E 6 0 [some (.ref 15), some (.int (-3))] [] I1 T1 (KV (fun I2 T2 => ev E 6 0 [some (.ref 15), some (.int (-9))] [] I2 T2 (KV (fun I3 T3 => ev E 6 0 [some (.ref 15), some (.int (-4))] [] I3 T3 (KV (fun I4 T4 => ev E 6 0 [some (.ref 15), some (.int 4)] [] I4 T4 (KV (fun I5 T5 => ev E 6 0 [some (.ref 15), some (.int (-12))] [] I5 T5 (KV (fun I6 T6 => ev E 6 0 [some (.ref 15), some (.int (-10))] [] I6 T6 (KV (fun I7 T7 => ev E 7 0 [some (.ref 15)] [] I7 T7 (KV (fun I8 T8 => Q (.inl none) I8 T8) (fun x I1 T1 => Q (.inr x) I1 T1))) (fun x I1 T1 => Q (.inr x) I1 T1))) (fun x I1 T1 => Q (.inr x) I1 T1))) (fun x I1 T1 => Q (.inr x) I1 T1))) (fun x I1 T1 => Q (.inr x) I1 T1))) (fun x I1 T1 => Q (.inr x) I1 T1))) (fun x I1 T1 => Q (.inr x) I1 T1))) (fun x I1 T1 => Q (.inr x) I1 T1))
theorem s_Law_clear_0 {E : MEnv} {I : II} {T : TT} {Q : QQ} (hq : t_Law_clear_0 E I T Q) : ev E 5 0 [some (.ref 15)] [] I T Q := by
  unfold t_Law_clear_0 at hq
  refine ev_seq 5 (ip' := 5) (loc' := [some (.ref 15)]) (st' := [(.int (-1)), (.ref 15)]) (I1 := m_up I 15 5 0) (T1 := T) rfl ?_
  refine ev_callV rfl rfl rfl (fun I1 T1 hq => ?_) (fun x I1 T1 hq => ?_) hq
  · refine ev_seq 2 (ip' := 8) (loc' := [some (.ref 15)]) (st' := [(.int (-3)), (.ref 15)]) (I1 := I1) (T1 := T1) rfl ?_
    refine ev_callV rfl rfl rfl (fun I2 T2 hq => ?_) (fun x I1 T1 hq => ?_) hq
    · refine ev_seq 2 (ip' := 11) (loc' := [some (.ref 15)]) (st' := [(.int (-9)), (.ref 15)]) (I1 := I2) (T1 := T2) rfl ?_
      refine ev_callV rfl rfl rfl (fun I3 T3 hq => ?_) (fun x I1 T1 hq => ?_) hq
      · refine ev_seq 2 (ip' := 14) (loc' := [some (.ref 15)]) (st' := [(.int (-4)), (.ref 15)]) (I1 := I3) (T1 := T3) rfl ?_
        refine ev_callV rfl rfl rfl (fun I4 T4 hq => ?_) (fun x I1 T1 hq => ?_) hq
        · refine ev_seq 2 (ip' := 17) (loc' := [some (.ref 15)]) (st' := [(.int 4), (.ref 15)]) (I1 := I4) (T1 := T4) rfl ?_
          refine ev_callV rfl rfl rfl (fun I5 T5 hq => ?_) (fun x I1 T1 hq => ?_) hq
          · refine ev_seq 2 (ip' := 20) (loc' := [some (.ref 15)]) (st' := [(.int (-12)), (.ref 15)]) (I1 := I5) (T1 := T5) rfl ?_
            refine ev_callV rfl rfl rfl (fun I6 T6 hq => ?_) (fun x I1 T1 hq => ?_) hq
            · refine ev_seq 2 (ip' := 23) (loc' := [some (.ref 15)]) (st' := [(.int (-10)), (.ref 15)]) (I1 := I6) (T1 := T6) rfl ?_
              refine ev_callV rfl rfl rfl (fun I7 T7 hq => ?_) (fun x I1 T1 hq => ?_) hq
              · refine ev_seq 1 (ip' := 25) (loc' := [some (.ref 15)]) (st' := [(.ref 15)]) (I1 := I7) (T1 := T7) rfl ?_
                refine ev_callV rfl rfl rfl (fun I8 T8 hq => ?_) (fun x I1 T1 hq => ?_) hq
                · exact ev_ret rfl rfl hq
                · exact ⟨by decide, hq⟩
              · exact ⟨by decide, hq⟩
            · exact ⟨by decide, hq⟩
          · exact ⟨by decide, hq⟩
        · exact ⟨by decide, hq⟩
      · exact ⟨by decide, hq⟩
    · exact ⟨by decide, hq⟩
  · exact ⟨by decide, hq⟩
/-- FeltHarness$Law.emit(I)V -/
def t_Law_emit_18 (E : MEnv) (I : II) (T : TT) (Q : QQ) : Prop := Q (.inl none) I T
theorem s_Law_emit_18 {E : MEnv} {I : II} {T : TT} {Q : QQ} (hq : t_Law_emit_18 E I T Q) : ev E 6 18 [none, none] [] I T Q := by
  unfold t_Law_emit_18 at hq
  exact ev_ret rfl rfl hq
def t_Law_emit_0 (E : MEnv) (I : II) (T : TT) (Q : QQ) (x1 : Int32) : Prop := (150 ≤ (I 15 5) → (t_Law_emit_18 E I T Q )) ∧ (¬ (150 ≤ (I 15 5)) → ((¬ (I 15 5) < 0 ∧ (I 15 5).toNatClampNeg < 150) ∧ (t_Law_emit_18 E (m_up (m_up I 17 (I 15 5).toNatClampNeg x1) 15 5 (((m_up I 17 (I 15 5).toNatClampNeg x1) 15 5) + 1)) T Q )))
theorem s_Law_emit_0 {E : MEnv} {I : II} {T : TT} {Q : QQ} {x1 : Int32} (hq : t_Law_emit_0 E I T Q x1) : ev E 6 0 [some (.ref 15), some (.int x1)] [] I T Q := by
  unfold t_Law_emit_0 at hq
  refine ev_seq 5 (ip' := 5) (loc' := [some (.ref 15), some (.int x1)]) (st' := [(.int 150), (.int (I 15 5))]) (I1 := I) (T1 := T) rfl ?_
  refine ev_br (p := 150 ≤ (I 15 5)) (a := 18) (b := 6) (st' := []) inferInstance rfl rfl (fun hb => ?_) (fun hb => ?_)
  · have hq := hq.1 hb
    refine ev_fg [false, false] (loc' := [none, none]) rfl ?_
    exact s_Law_emit_18 (T := T) hq
  · have hq := hq.2 hb
    refine ev_seq 5 (ip' := 11) (loc' := [some (.ref 15), some (.int x1)]) (st' := [(.int x1), (.int (I 15 5)), (.ref 17)]) (I1 := I) (T1 := T) rfl ?_
    obtain ⟨hg, hq⟩ := hq
    refine ev_iast rfl rfl hg ?_
    refine ev_seq 6 (ip' := 18) (loc' := [some (.ref 15), some (.int x1)]) (st' := []) (I1 := m_up (m_up I 17 (I 15 5).toNatClampNeg x1) 15 5 (((m_up I 17 (I 15 5).toNatClampNeg x1) 15 5) + 1)) (T1 := T) rfl ?_
    refine ev_fg [false, false] (loc' := [none, none]) rfl ?_
    exact s_Law_emit_18 (T := T) hq
/-- FeltHarness$Law.joined(III)I -/
def t_Law_joined_0 (E : MEnv) (I : II) (T : TT) (Q : QQ) (x0 : Int32) (x1 : Int32) (x2 : Int32) : Prop := ev E 131 (m_tsw (-14) (-9) [30, 22, 14, 10, 6, 2] 37 x0) [some (.int x0), some (.int x1), some (.int x2)] [] I T Q
theorem s_Law_joined_0 {E : MEnv} {I : II} {T : TT} {Q : QQ} {x0 : Int32} {x1 : Int32} {x2 : Int32} (hq : t_Law_joined_0 E I T Q x0 x1 x2) : ev E 131 0 [some (.int x0), some (.int x1), some (.int x2)] [] I T Q := by
  unfold t_Law_joined_0 at hq
  refine ev_seq 1 (ip' := 1) (loc' := [some (.int x0), some (.int x1), some (.int x2)]) (st' := [(.int x0)]) (I1 := I) (T1 := T) rfl ?_
  refine ev_jp rfl rfl ?_
  exact hq
def t_Law_joined_2 (E : MEnv) (I : II) (T : TT) (Q : QQ) (x1 : Int32) (x2 : Int32) : Prop := Q (.inl (some (.int (x1 + x2)))) I T
theorem s_Law_joined_2 {E : MEnv} {I : II} {T : TT} {Q : QQ} {x1 : Int32} {x2 : Int32} (hq : t_Law_joined_2 E I T Q x1 x2) : ev E 131 2 [none, some (.int x1), some (.int x2)] [] I T Q := by
  unfold t_Law_joined_2 at hq
  refine ev_seq 3 (ip' := 5) (loc' := [none, some (.int x1), some (.int x2)]) (st' := [(.int (x1 + x2))]) (I1 := I) (T1 := T) rfl ?_
  exact ev_ret rfl rfl hq
def t_Law_joined_6 (E : MEnv) (I : II) (T : TT) (Q : QQ) (x1 : Int32) (x2 : Int32) : Prop := Q (.inl (some (.int (x1 - x2)))) I T
theorem s_Law_joined_6 {E : MEnv} {I : II} {T : TT} {Q : QQ} {x1 : Int32} {x2 : Int32} (hq : t_Law_joined_6 E I T Q x1 x2) : ev E 131 6 [none, some (.int x1), some (.int x2)] [] I T Q := by
  unfold t_Law_joined_6 at hq
  refine ev_seq 3 (ip' := 9) (loc' := [none, some (.int x1), some (.int x2)]) (st' := [(.int (x1 - x2))]) (I1 := I) (T1 := T) rfl ?_
  exact ev_ret rfl rfl hq
def t_Law_joined_10 (E : MEnv) (I : II) (T : TT) (Q : QQ) (x1 : Int32) (x2 : Int32) : Prop := Q (.inl (some (.int (x1 * x2)))) I T
theorem s_Law_joined_10 {E : MEnv} {I : II} {T : TT} {Q : QQ} {x1 : Int32} {x2 : Int32} (hq : t_Law_joined_10 E I T Q x1 x2) : ev E 131 10 [none, some (.int x1), some (.int x2)] [] I T Q := by
  unfold t_Law_joined_10 at hq
  refine ev_seq 3 (ip' := 13) (loc' := [none, some (.int x1), some (.int x2)]) (st' := [(.int (x1 * x2))]) (I1 := I) (T1 := T) rfl ?_
  exact ev_ret rfl rfl hq
def t_Law_joined_21 (E : MEnv) (I : II) (T : TT) (Q : QQ) (y0 : Int32) : Prop := Q (.inl (some (.int y0))) I T
theorem s_Law_joined_21 {E : MEnv} {I : II} {T : TT} {Q : QQ} {y0 : Int32} (hq : t_Law_joined_21 E I T Q y0) : ev E 131 21 [none, none, none] [(.int y0)] I T Q := by
  unfold t_Law_joined_21 at hq
  exact ev_ret rfl rfl hq
def t_Law_joined_14 (E : MEnv) (I : II) (T : TT) (Q : QQ) (x1 : Int32) (x2 : Int32) : Prop := (x2 = 0 → (t_Law_joined_21 E I T Q 0)) ∧ (¬ (x2 = 0) → (x2 ≠ 0 ∧ (t_Law_joined_21 E I T Q (x1 / x2))))
theorem s_Law_joined_14 {E : MEnv} {I : II} {T : TT} {Q : QQ} {x1 : Int32} {x2 : Int32} (hq : t_Law_joined_14 E I T Q x1 x2) : ev E 131 14 [none, some (.int x1), some (.int x2)] [] I T Q := by
  unfold t_Law_joined_14 at hq
  refine ev_seq 1 (ip' := 15) (loc' := [none, some (.int x1), some (.int x2)]) (st' := [(.int x2)]) (I1 := I) (T1 := T) rfl ?_
  refine ev_br (p := x2 = 0) (a := 16) (b := 18) (st' := []) inferInstance rfl rfl (fun hb => ?_) (fun hb => ?_)
  · have hq := hq.1 hb
    refine ev_seq 2 (ip' := 21) (loc' := [none, some (.int x1), some (.int x2)]) (st' := [(.int 0)]) (I1 := I) (T1 := T) rfl ?_
    refine ev_fg [true, false, false] (loc' := [none, none, none]) rfl ?_
    exact s_Law_joined_21 (T := T) hq
  · have hq := hq.2 hb
    refine ev_seq 2 (ip' := 20) (loc' := [none, some (.int x1), some (.int x2)]) (st' := [(.int x2), (.int x1)]) (I1 := I) (T1 := T) rfl ?_
    obtain ⟨hg, hq⟩ := hq
    refine ev_pr rfl (ev_idiv hg) ?_
    refine ev_fg [true, false, false] (loc' := [none, none, none]) rfl ?_
    exact s_Law_joined_21 (T := T) hq
def t_Law_joined_29 (E : MEnv) (I : II) (T : TT) (Q : QQ) (y0 : Int32) : Prop := Q (.inl (some (.int y0))) I T
theorem s_Law_joined_29 {E : MEnv} {I : II} {T : TT} {Q : QQ} {y0 : Int32} (hq : t_Law_joined_29 E I T Q y0) : ev E 131 29 [none, none, none] [(.int y0)] I T Q := by
  unfold t_Law_joined_29 at hq
  exact ev_ret rfl rfl hq
def t_Law_joined_22 (E : MEnv) (I : II) (T : TT) (Q : QQ) (x1 : Int32) (x2 : Int32) : Prop := (x2 = 0 → (t_Law_joined_29 E I T Q 0)) ∧ (¬ (x2 = 0) → (x2 ≠ 0 ∧ (t_Law_joined_29 E I T Q (x1 - x1 / x2 * x2))))
theorem s_Law_joined_22 {E : MEnv} {I : II} {T : TT} {Q : QQ} {x1 : Int32} {x2 : Int32} (hq : t_Law_joined_22 E I T Q x1 x2) : ev E 131 22 [none, some (.int x1), some (.int x2)] [] I T Q := by
  unfold t_Law_joined_22 at hq
  refine ev_seq 1 (ip' := 23) (loc' := [none, some (.int x1), some (.int x2)]) (st' := [(.int x2)]) (I1 := I) (T1 := T) rfl ?_
  refine ev_br (p := x2 = 0) (a := 24) (b := 26) (st' := []) inferInstance rfl rfl (fun hb => ?_) (fun hb => ?_)
  · have hq := hq.1 hb
    refine ev_seq 2 (ip' := 29) (loc' := [none, some (.int x1), some (.int x2)]) (st' := [(.int 0)]) (I1 := I) (T1 := T) rfl ?_
    refine ev_fg [true, false, false] (loc' := [none, none, none]) rfl ?_
    exact s_Law_joined_29 (T := T) hq
  · have hq := hq.2 hb
    refine ev_seq 2 (ip' := 28) (loc' := [none, some (.int x1), some (.int x2)]) (st' := [(.int x2), (.int x1)]) (I1 := I) (T1 := T) rfl ?_
    obtain ⟨hg, hq⟩ := hq
    refine ev_pr rfl (ev_irem hg) ?_
    refine ev_fg [true, false, false] (loc' := [none, none, none]) rfl ?_
    exact s_Law_joined_29 (T := T) hq
def t_Law_joined_36 (E : MEnv) (I : II) (T : TT) (Q : QQ) (y0 : Int32) : Prop := Q (.inl (some (.int y0))) I T
theorem s_Law_joined_36 {E : MEnv} {I : II} {T : TT} {Q : QQ} {y0 : Int32} (hq : t_Law_joined_36 E I T Q y0) : ev E 131 36 [none, none, none] [(.int y0)] I T Q := by
  unfold t_Law_joined_36 at hq
  exact ev_ret rfl rfl hq
def t_Law_joined_30 (E : MEnv) (I : II) (T : TT) (Q : QQ) (x1 : Int32) (x2 : Int32) : Prop := (x2 ≤ x1 → (t_Law_joined_36 E I T Q x2)) ∧ (¬ (x2 ≤ x1) → (t_Law_joined_36 E I T Q x1))
theorem s_Law_joined_30 {E : MEnv} {I : II} {T : TT} {Q : QQ} {x1 : Int32} {x2 : Int32} (hq : t_Law_joined_30 E I T Q x1 x2) : ev E 131 30 [none, some (.int x1), some (.int x2)] [] I T Q := by
  unfold t_Law_joined_30 at hq
  refine ev_seq 2 (ip' := 32) (loc' := [none, some (.int x1), some (.int x2)]) (st' := [(.int x2), (.int x1)]) (I1 := I) (T1 := T) rfl ?_
  refine ev_br (p := x2 ≤ x1) (a := 35) (b := 33) (st' := []) inferInstance rfl rfl (fun hb => ?_) (fun hb => ?_)
  · have hq := hq.1 hb
    refine ev_seq 1 (ip' := 36) (loc' := [none, some (.int x1), some (.int x2)]) (st' := [(.int x2)]) (I1 := I) (T1 := T) rfl ?_
    refine ev_fg [true, false, false] (loc' := [none, none, none]) rfl ?_
    exact s_Law_joined_36 (T := T) hq
  · have hq := hq.2 hb
    refine ev_seq 2 (ip' := 36) (loc' := [none, some (.int x1), some (.int x2)]) (st' := [(.int x1)]) (I1 := I) (T1 := T) rfl ?_
    refine ev_fg [true, false, false] (loc' := [none, none, none]) rfl ?_
    exact s_Law_joined_36 (T := T) hq
def t_Law_joined_43 (E : MEnv) (I : II) (T : TT) (Q : QQ) (y0 : Int32) : Prop := Q (.inl (some (.int y0))) I T
theorem s_Law_joined_43 {E : MEnv} {I : II} {T : TT} {Q : QQ} {y0 : Int32} (hq : t_Law_joined_43 E I T Q y0) : ev E 131 43 [none, none, none] [(.int y0)] I T Q := by
  unfold t_Law_joined_43 at hq
  exact ev_ret rfl rfl hq
def t_Law_joined_37 (E : MEnv) (I : II) (T : TT) (Q : QQ) (x1 : Int32) (x2 : Int32) : Prop := (x1 ≤ x2 → (t_Law_joined_43 E I T Q x2)) ∧ (¬ (x1 ≤ x2) → (t_Law_joined_43 E I T Q x1))
theorem s_Law_joined_37 {E : MEnv} {I : II} {T : TT} {Q : QQ} {x1 : Int32} {x2 : Int32} (hq : t_Law_joined_37 E I T Q x1 x2) : ev E 131 37 [none, some (.int x1), some (.int x2)] [] I T Q := by
  unfold t_Law_joined_37 at hq
  refine ev_seq 2 (ip' := 39) (loc' := [none, some (.int x1), some (.int x2)]) (st' := [(.int x2), (.int x1)]) (I1 := I) (T1 := T) rfl ?_
  refine ev_br (p := x1 ≤ x2) (a := 42) (b := 40) (st' := []) inferInstance rfl rfl (fun hb => ?_) (fun hb => ?_)
  · have hq := hq.1 hb
    refine ev_seq 1 (ip' := 43) (loc' := [none, some (.int x1), some (.int x2)]) (st' := [(.int x2)]) (I1 := I) (T1 := T) rfl ?_
    refine ev_fg [true, false, false] (loc' := [none, none, none]) rfl ?_
    exact s_Law_joined_43 (T := T) hq
  · have hq := hq.2 hb
    refine ev_seq 2 (ip' := 43) (loc' := [none, some (.int x1), some (.int x2)]) (st' := [(.int x1)]) (I1 := I) (T1 := T) rfl ?_
    refine ev_fg [true, false, false] (loc' := [none, none, none]) rfl ?_
    exact s_Law_joined_43 (T := T) hq
/-- FeltHarness$Law.read(LFeltHarness$Text;)V -/
def t_Law_read_21 (E : MEnv) (I : II) (T : TT) (Q : QQ) : Prop := Q (.inl none) I T
theorem s_Law_read_21 {E : MEnv} {I : II} {T : TT} {Q : QQ} (hq : t_Law_read_21 E I T Q) : ev E 79 21 [none, none] [] I T Q := by
  unfold t_Law_read_21 at hq
  exact ev_ret rfl rfl hq
def t_Law_read_16 (E : MEnv) (I : II) (T : TT) (Q : QQ) : Prop := ev E 31 0 [some (.ref 1)] [] I T (KI (fun v1 I1 T1 => (v1 = 0 → (t_Law_read_21 E I1 T1 Q )) ∧ (¬ (v1 = 0) → (ev E 7 0 [some (.ref 15)] [] I1 T1 (KV (fun I2 T2 => t_Law_read_21 E I2 T2 Q ) (fun x I1 T1 => Q (.inr x) I1 T1))))) (fun x I1 T1 => Q (.inr x) I1 T1))
theorem s_Law_read_16 {E : MEnv} {I : II} {T : TT} {Q : QQ} (hq : t_Law_read_16 E I T Q) : ev E 79 16 [some (.ref 15), some (.ref 1)] [] I T Q := by
  unfold t_Law_read_16 at hq
  refine ev_seq 1 (ip' := 17) (loc' := [some (.ref 15), some (.ref 1)]) (st' := [(.ref 1)]) (I1 := I) (T1 := T) rfl ?_
  refine ev_callI rfl rfl rfl (fun v1 I1 T1 hq => ?_) (fun x I1 T1 hq => ?_) hq
  · refine ev_br (p := v1 = 0) (a := 21) (b := 19) (st' := []) inferInstance rfl rfl (fun hb => ?_) (fun hb => ?_)
    · have hq := hq.1 hb
      refine ev_fg [false, false] (loc' := [none, none]) rfl ?_
      exact s_Law_read_21 (T := T1) hq
    · have hq := hq.2 hb
      refine ev_seq 1 (ip' := 20) (loc' := [some (.ref 15), some (.ref 1)]) (st' := [(.ref 15)]) (I1 := I1) (T1 := T1) rfl ?_
      refine ev_callV rfl rfl rfl (fun I2 T2 hq => ?_) (fun x I1 T1 hq => ?_) hq
      · refine ev_fg [false, false] (loc' := [none, none]) rfl ?_
        exact s_Law_read_21 (T := T2) hq
      · exact ⟨by decide, hq⟩
  · exact ⟨by decide, hq⟩
def t_Law_read_0 (E : MEnv) (I : II) (T : TT) (Q : QQ) : Prop := ev E 80 0 [some (.ref 15), some (.ref 1), some (.int 0), none, none] [] (m_up I 15 5 0) T (KV (fun I1 T1 => ev E 32 0 [some (.ref 1)] [] I1 T1 (KI (fun v2 I2 T2 => (v2 = (-1) → (t_Law_read_16 E I2 T2 Q )) ∧ (¬ (v2 = (-1)) → (ev E 45 0 [some (.ref 1), some (.int 1), some (.int (I2 1 3))] [] I2 T2 (KV (fun I3 T3 => t_Law_read_16 E I3 T3 Q ) (fun x I1 T1 => Q (.inr x) I1 T1))))) (fun x I1 T1 => Q (.inr x) I1 T1))) (fun x I1 T1 => Q (.inr x) I1 T1))
theorem s_Law_read_0 {E : MEnv} {I : II} {T : TT} {Q : QQ} (hq : t_Law_read_0 E I T Q) : ev E 79 0 [some (.ref 15), some (.ref 1)] [] I T Q := by
  unfold t_Law_read_0 at hq
  refine ev_seq 6 (ip' := 6) (loc' := [some (.ref 15), some (.ref 1)]) (st' := [(.int 0), (.ref 1), (.ref 15)]) (I1 := m_up I 15 5 0) (T1 := T) rfl ?_
  refine ev_callV rfl rfl rfl (fun I1 T1 hq => ?_) (fun x I1 T1 hq => ?_) hq
  · refine ev_seq 1 (ip' := 8) (loc' := [some (.ref 15), some (.ref 1)]) (st' := [(.ref 1)]) (I1 := I1) (T1 := T1) rfl ?_
    refine ev_callI rfl rfl rfl (fun v2 I2 T2 hq => ?_) (fun x I1 T1 hq => ?_) hq
    · refine ev_seq 1 (ip' := 10) (loc' := [some (.ref 15), some (.ref 1)]) (st' := [(.int (-1)), (.int v2)]) (I1 := I2) (T1 := T2) rfl ?_
      refine ev_br (p := v2 = (-1)) (a := 16) (b := 11) (st' := []) inferInstance rfl rfl (fun hb => ?_) (fun hb => ?_)
      · have hq := hq.1 hb
        exact s_Law_read_16 (T := T2) hq
      · have hq := hq.2 hb
        refine ev_seq 4 (ip' := 15) (loc' := [some (.ref 15), some (.ref 1)]) (st' := [(.int (I2 1 3)), (.int 1), (.ref 1)]) (I1 := I2) (T1 := T2) rfl ?_
        refine ev_callV rfl rfl rfl (fun I3 T3 hq => ?_) (fun x I1 T1 hq => ?_) hq
        · exact s_Law_read_16 (T := T3) hq
        · exact ⟨by decide, hq⟩
    · exact ⟨by decide, hq⟩
  · exact ⟨by decide, hq⟩
/-- FeltHarness$Law.readBrackets(LFeltHarness$Text;I)V -/
def t_Law_readBrackets_0 (d9 : Nat) (X9 : Nat × (Nat → Int32)) (I : II) (T : TT) (Q : QQ) (x2 : Int32) : Prop := (x2 < 6 → (ev (d9 + 1, X9) 52 0 [some (.ref 1)] [] I T (KV (fun I1 T1 => ev (d9, X9) 80 0 [some (.ref 15), some (.ref 1), some (.int (x2 + 1)), none, none] [] I1 T1 (KV (fun I2 T2 => ev (d9 + 1, X9) 51 0 [some (.ref 1), some (.int 41)] [] I2 T2 (KV (fun I3 T3 => Q (.inl none) I3 T3) (fun x I1 T1 => Q (.inr x) I1 T1))) (fun x I1 T1 => Q (.inr x) I1 T1))) (fun x I1 T1 => Q (.inr x) I1 T1)))) ∧ (¬ (x2 < 6) → (ev (d9 + 1, X9) 45 0 [some (.ref 1), some (.int 3), some (.int (I 1 3))] [] I T (KV (fun I4 T4 => Q (.inl none) I4 T4) (fun x I1 T1 => Q (.inr x) I1 T1))))
theorem s_Law_readBrackets_0 {d9 : Nat} {X9 : Nat × (Nat → Int32)} {I : II} {T : TT} {Q : QQ} {x2 : Int32} (hq : t_Law_readBrackets_0 d9 X9 I T Q x2) : ev (d9 + 1, X9) 83 0 [some (.ref 15), some (.ref 1), some (.int x2)] [] I T Q := by
  unfold t_Law_readBrackets_0 at hq
  refine ev_seq 2 (ip' := 2) (loc' := [some (.ref 15), some (.ref 1), some (.int x2)]) (st' := [(.int 6), (.int x2)]) (I1 := I) (T1 := T) rfl ?_
  refine ev_br (p := x2 < 6) (a := 9) (b := 3) (st' := []) inferInstance rfl rfl (fun hb => ?_) (fun hb => ?_)
  · have hq := hq.1 hb
    refine ev_seq 1 (ip' := 10) (loc' := [some (.ref 15), some (.ref 1), some (.int x2)]) (st' := [(.ref 1)]) (I1 := I) (T1 := T) rfl ?_
    refine ev_callV rfl rfl rfl (fun I1 T1 hq => ?_) (fun x I1 T1 hq => ?_) hq
    · refine ev_seq 5 (ip' := 16) (loc' := [some (.ref 15), some (.ref 1), some (.int x2)]) (st' := [(.int (x2 + 1)), (.ref 1), (.ref 15)]) (I1 := I1) (T1 := T1) rfl ?_
      refine ev_callV rfl rfl rfl (fun I2 T2 hq => ?_) (fun x I1 T1 hq => ?_) hq
      · refine ev_seq 2 (ip' := 19) (loc' := [some (.ref 15), some (.ref 1), some (.int x2)]) (st' := [(.int 41), (.ref 1)]) (I1 := I2) (T1 := T2) rfl ?_
        refine ev_callV rfl rfl rfl (fun I3 T3 hq => ?_) (fun x I1 T1 hq => ?_) hq
        · exact ev_ret rfl rfl hq
        · exact ⟨by decide, hq⟩
      · exact ⟨by decide, hq⟩
    · exact ⟨by decide, hq⟩
  · have hq := hq.2 hb
    refine ev_seq 4 (ip' := 7) (loc' := [some (.ref 15), some (.ref 1), some (.int x2)]) (st' := [(.int (I 1 3)), (.int 3), (.ref 1)]) (I1 := I) (T1 := T) rfl ?_
    refine ev_callV rfl rfl rfl (fun I4 T4 hq => ?_) (fun x I1 T1 hq => ?_) hq
    · exact ev_ret rfl rfl hq
    · exact ⟨by decide, hq⟩
/-- FeltHarness$Law.readChoice(LFeltHarness$Text;II)V -/
def t_Law_readChoice_8 (d9 : Nat) (X9 : Nat × (Nat → Int32)) (I : II) (T : TT) (Q : QQ) (x2 : Int32) (x3 : Int32) : Prop := ev (d9 + 1, X9) 51 0 [some (.ref 1), some (.int 91)] [] I T (KV (fun I1 T1 => ev (d9 + 1, X9) 31 0 [some (.ref 1)] [] I1 T1 (KI (fun v2 I2 T2 => (v2 = 0 → (Q (.inl none) I2 T2)) ∧ (¬ (v2 = 0) → (ev (d9, X9) 80 0 [some (.ref 15), some (.ref 1), some (.int (x2 + 1)), none, none] [] I2 T2 (KV (fun I3 T3 => ev (d9 + 1, X9) 51 0 [some (.ref 1), some (.int 44)] [] I3 T3 (KV (fun I4 T4 => ev (d9 + 1, X9) 31 0 [some (.ref 1)] [] I4 T4 (KI (fun v5 I5 T5 => (v5 = 0 → (Q (.inl none) I5 T5)) ∧ (¬ (v5 = 0) → (ev (d9, X9) 80 0 [some (.ref 15), some (.ref 1), some (.int (x2 + 1)), none, none] [] I5 T5 (KV (fun I6 T6 => ev (d9 + 1, X9) 51 0 [some (.ref 1), some (.int 93)] [] I6 T6 (KV (fun I7 T7 => ev (d9 + 1, X9) 6 0 [some (.ref 15), some (.int x3)] [] I7 T7 (KV (fun I8 T8 => Q (.inl none) I8 T8) (fun x I1 T1 => Q (.inr x) I1 T1))) (fun x I1 T1 => Q (.inr x) I1 T1))) (fun x I1 T1 => Q (.inr x) I1 T1))))) (fun x I1 T1 => Q (.inr x) I1 T1))) (fun x I1 T1 => Q (.inr x) I1 T1))) (fun x I1 T1 => Q (.inr x) I1 T1))))) (fun x I1 T1 => Q (.inr x) I1 T1))) (fun x I1 T1 => Q (.inr x) I1 T1))
theorem s_Law_readChoice_8 {d9 : Nat} {X9 : Nat × (Nat → Int32)} {I : II} {T : TT} {Q : QQ} {x2 : Int32} {x3 : Int32} (hq : t_Law_readChoice_8 d9 X9 I T Q x2 x3) : ev (d9 + 1, X9) 84 8 [some (.ref 15), some (.ref 1), some (.int x2), some (.int x3)] [] I T Q := by
  unfold t_Law_readChoice_8 at hq
  refine ev_seq 2 (ip' := 10) (loc' := [some (.ref 15), some (.ref 1), some (.int x2), some (.int x3)]) (st' := [(.int 91), (.ref 1)]) (I1 := I) (T1 := T) rfl ?_
  refine ev_callV rfl rfl rfl (fun I1 T1 hq => ?_) (fun x I1 T1 hq => ?_) hq
  · refine ev_seq 1 (ip' := 12) (loc' := [some (.ref 15), some (.ref 1), some (.int x2), some (.int x3)]) (st' := [(.ref 1)]) (I1 := I1) (T1 := T1) rfl ?_
    refine ev_callI rfl rfl rfl (fun v2 I2 T2 hq => ?_) (fun x I1 T1 hq => ?_) hq
    · refine ev_br (p := v2 = 0) (a := 14) (b := 15) (st' := []) inferInstance rfl rfl (fun hb => ?_) (fun hb => ?_)
      · have hq := hq.1 hb
        exact ev_ret rfl rfl hq
      · have hq := hq.2 hb
        refine ev_seq 5 (ip' := 20) (loc' := [some (.ref 15), some (.ref 1), some (.int x2), some (.int x3)]) (st' := [(.int (x2 + 1)), (.ref 1), (.ref 15)]) (I1 := I2) (T1 := T2) rfl ?_
        refine ev_callV rfl rfl rfl (fun I3 T3 hq => ?_) (fun x I1 T1 hq => ?_) hq
        · refine ev_seq 2 (ip' := 23) (loc' := [some (.ref 15), some (.ref 1), some (.int x2), some (.int x3)]) (st' := [(.int 44), (.ref 1)]) (I1 := I3) (T1 := T3) rfl ?_
          refine ev_callV rfl rfl rfl (fun I4 T4 hq => ?_) (fun x I1 T1 hq => ?_) hq
          · refine ev_seq 1 (ip' := 25) (loc' := [some (.ref 15), some (.ref 1), some (.int x2), some (.int x3)]) (st' := [(.ref 1)]) (I1 := I4) (T1 := T4) rfl ?_
            refine ev_callI rfl rfl rfl (fun v5 I5 T5 hq => ?_) (fun x I1 T1 hq => ?_) hq
            · refine ev_br (p := v5 = 0) (a := 27) (b := 28) (st' := []) inferInstance rfl rfl (fun hb => ?_) (fun hb => ?_)
              · have hq := hq.1 hb
                exact ev_ret rfl rfl hq
              · have hq := hq.2 hb
                refine ev_seq 5 (ip' := 33) (loc' := [some (.ref 15), some (.ref 1), some (.int x2), some (.int x3)]) (st' := [(.int (x2 + 1)), (.ref 1), (.ref 15)]) (I1 := I5) (T1 := T5) rfl ?_
                refine ev_callV rfl rfl rfl (fun I6 T6 hq => ?_) (fun x I1 T1 hq => ?_) hq
                · refine ev_seq 2 (ip' := 36) (loc' := [some (.ref 15), some (.ref 1), some (.int x2), some (.int x3)]) (st' := [(.int 93), (.ref 1)]) (I1 := I6) (T1 := T6) rfl ?_
                  refine ev_callV rfl rfl rfl (fun I7 T7 hq => ?_) (fun x I1 T1 hq => ?_) hq
                  · refine ev_seq 2 (ip' := 39) (loc' := [some (.ref 15), some (.ref 1), some (.int x2), some (.int x3)]) (st' := [(.int x3), (.ref 15)]) (I1 := I7) (T1 := T7) rfl ?_
                    refine ev_callV rfl rfl rfl (fun I8 T8 hq => ?_) (fun x I1 T1 hq => ?_) hq
                    · exact ev_ret rfl rfl hq
                    · exact ⟨by decide, hq⟩
                  · exact ⟨by decide, hq⟩
                · exact ⟨by decide, hq⟩
            · exact ⟨by decide, hq⟩
          · exact ⟨by decide, hq⟩
        · exact ⟨by decide, hq⟩
    · exact ⟨by decide, hq⟩
  · exact ⟨by decide, hq⟩
def t_Law_readChoice_0 (d9 : Nat) (X9 : Nat × (Nat → Int32)) (I : II) (T : TT) (Q : QQ) (x2 : Int32) (x3 : Int32) : Prop := (x2 < 6 → (t_Law_readChoice_8 d9 X9 I T Q x2 x3)) ∧ (¬ (x2 < 6) → (ev (d9 + 1, X9) 45 0 [some (.ref 1), some (.int 3), some (.int (I 1 4))] [] I T (KV (fun I1 T1 => t_Law_readChoice_8 d9 X9 I1 T1 Q x2 x3) (fun x I1 T1 => Q (.inr x) I1 T1))))
theorem s_Law_readChoice_0 {d9 : Nat} {X9 : Nat × (Nat → Int32)} {I : II} {T : TT} {Q : QQ} {x2 : Int32} {x3 : Int32} (hq : t_Law_readChoice_0 d9 X9 I T Q x2 x3) : ev (d9 + 1, X9) 84 0 [some (.ref 15), some (.ref 1), some (.int x2), some (.int x3)] [] I T Q := by
  unfold t_Law_readChoice_0 at hq
  refine ev_seq 2 (ip' := 2) (loc' := [some (.ref 15), some (.ref 1), some (.int x2), some (.int x3)]) (st' := [(.int 6), (.int x2)]) (I1 := I) (T1 := T) rfl ?_
  refine ev_br (p := x2 < 6) (a := 8) (b := 3) (st' := []) inferInstance rfl rfl (fun hb => ?_) (fun hb => ?_)
  · have hq := hq.1 hb
    exact s_Law_readChoice_8 (T := T) hq
  · have hq := hq.2 hb
    refine ev_seq 4 (ip' := 7) (loc' := [some (.ref 15), some (.ref 1), some (.int x2), some (.int x3)]) (st' := [(.int (I 1 4)), (.int 3), (.ref 1)]) (I1 := I) (T1 := T) rfl ?_
    refine ev_callV rfl rfl rfl (fun I1 T1 hq => ?_) (fun x I1 T1 hq => ?_) hq
    · exact s_Law_readChoice_8 (T := T1) hq
    · exact ⟨by decide, hq⟩
/-- FeltHarness$Law.readProduct(LFeltHarness$Text;I)V -/
def t_Law_readProduct_46 (E : MEnv) (I : II) (T : TT) (Q : QQ) : Prop := Q (.inl none) I T
theorem s_Law_readProduct_46 {E : MEnv} {I : II} {T : TT} {Q : QQ} (hq : t_Law_readProduct_46 E I T Q) : ev E 81 46 [none, none, none, none, none] [] I T Q := by
  unfold t_Law_readProduct_46 at hq
  exact ev_ret rfl rfl hq
def t_Law_readProduct_43 (E : MEnv) (I : II) (T : TT) (Q : QQ) (x2 : Int32) (x3 : Int32) (y1 : Int32) : Prop := ev E 6 0 [some (.ref 15), some (.int y1)] [] I T (KV (fun I1 T1 => ev E 81 6 [some (.ref 15), some (.ref 1), some (.int x2), some (.int (x3 + 1)), none] [] I1 T1 Q) (fun x I1 T1 => Q (.inr x) I1 T1))
theorem s_Law_readProduct_43 {E : MEnv} {I : II} {T : TT} {Q : QQ} {x2 : Int32} {x3 : Int32} {y1 : Int32} (hq : t_Law_readProduct_43 E I T Q x2 x3 y1) : ev E 81 43 [some (.ref 15), some (.ref 1), some (.int x2), some (.int x3), none] [(.int y1), (.ref 15)] I T Q := by
  unfold t_Law_readProduct_43 at hq
  refine ev_callV rfl rfl rfl (fun I1 T1 hq => ?_) (fun x I1 T1 hq => ?_) hq
  · refine ev_seq 2 (ip' := 6) (loc' := [some (.ref 15), some (.ref 1), some (.int x2), some (.int (x3 + 1)), none]) (st' := []) (I1 := I1) (T1 := T1) rfl ?_
    exact hq
  · exact ⟨by decide, hq⟩
def t_Law_readProduct_25 (E : MEnv) (I : II) (T : TT) (Q : QQ) (x2 : Int32) (x3 : Int32) (x4 : Int32) : Prop := ev E 52 0 [some (.ref 1)] [] I T (KV (fun I1 T1 => ev E 82 0 [some (.ref 15), some (.ref 1), some (.int x2), none, none] [] I1 T1 (KV (fun I2 T2 => (x4 = 42 → (t_Law_readProduct_43 E I2 T2 Q x2 x3 (-11))) ∧ (¬ (x4 = 42) → ((x4 = 47 → (t_Law_readProduct_43 E I2 T2 Q x2 x3 (-12))) ∧ (¬ (x4 = 47) → (t_Law_readProduct_43 E I2 T2 Q x2 x3 (-13)))))) (fun x I1 T1 => Q (.inr x) I1 T1))) (fun x I1 T1 => Q (.inr x) I1 T1))
theorem s_Law_readProduct_25 {E : MEnv} {I : II} {T : TT} {Q : QQ} {x2 : Int32} {x3 : Int32} {x4 : Int32} (hq : t_Law_readProduct_25 E I T Q x2 x3 x4) : ev E 81 25 [some (.ref 15), some (.ref 1), some (.int x2), some (.int x3), some (.int x4)] [] I T Q := by
  unfold t_Law_readProduct_25 at hq
  refine ev_seq 1 (ip' := 26) (loc' := [some (.ref 15), some (.ref 1), some (.int x2), some (.int x3), some (.int x4)]) (st' := [(.ref 1)]) (I1 := I) (T1 := T) rfl ?_
  refine ev_callV rfl rfl rfl (fun I1 T1 hq => ?_) (fun x I1 T1 hq => ?_) hq
  · refine ev_seq 3 (ip' := 30) (loc' := [some (.ref 15), some (.ref 1), some (.int x2), some (.int x3), some (.int x4)]) (st' := [(.int x2), (.ref 1), (.ref 15)]) (I1 := I1) (T1 := T1) rfl ?_
    refine ev_callV rfl rfl rfl (fun I2 T2 hq => ?_) (fun x I1 T1 hq => ?_) hq
    · refine ev_seq 3 (ip' := 34) (loc' := [some (.ref 15), some (.ref 1), some (.int x2), some (.int x3), some (.int x4)]) (st' := [(.int 42), (.int x4), (.ref 15)]) (I1 := I2) (T1 := T2) rfl ?_
      refine ev_br (p := x4 = 42) (a := 35) (b := 37) (st' := [(.ref 15)]) inferInstance rfl rfl (fun hb => ?_) (fun hb => ?_)
      · have hq := hq.1 hb
        refine ev_seq 2 (ip' := 43) (loc' := [some (.ref 15), some (.ref 1), some (.int x2), some (.int x3), some (.int x4)]) (st' := [(.int (-11)), (.ref 15)]) (I1 := I2) (T1 := T2) rfl ?_
        refine ev_fg [true, true, true, true, false] (loc' := [some (.ref 15), some (.ref 1), some (.int x2), some (.int x3), none]) rfl ?_
        exact s_Law_readProduct_43 (T := T2) hq
      · have hq := hq.2 hb
        refine ev_seq 2 (ip' := 39) (loc' := [some (.ref 15), some (.ref 1), some (.int x2), some (.int x3), some (.int x4)]) (st' := [(.int 47), (.int x4), (.ref 15)]) (I1 := I2) (T1 := T2) rfl ?_
        refine ev_br (p := x4 = 47) (a := 40) (b := 42) (st' := [(.ref 15)]) inferInstance rfl rfl (fun hb => ?_) (fun hb => ?_)
        · have hq := hq.1 hb
          refine ev_seq 2 (ip' := 43) (loc' := [some (.ref 15), some (.ref 1), some (.int x2), some (.int x3), some (.int x4)]) (st' := [(.int (-12)), (.ref 15)]) (I1 := I2) (T1 := T2) rfl ?_
          refine ev_fg [true, true, true, true, false] (loc' := [some (.ref 15), some (.ref 1), some (.int x2), some (.int x3), none]) rfl ?_
          exact s_Law_readProduct_43 (T := T2) hq
        · have hq := hq.2 hb
          refine ev_seq 1 (ip' := 43) (loc' := [some (.ref 15), some (.ref 1), some (.int x2), some (.int x3), some (.int x4)]) (st' := [(.int (-13)), (.ref 15)]) (I1 := I2) (T1 := T2) rfl ?_
          refine ev_fg [true, true, true, true, false] (loc' := [some (.ref 15), some (.ref 1), some (.int x2), some (.int x3), none]) rfl ?_
          exact s_Law_readProduct_43 (T := T2) hq
    · exact ⟨by decide, hq⟩
  · exact ⟨by decide, hq⟩
def t_Law_readProduct_6 (E : MEnv) (I : II) (T : TT) (Q : QQ) (x2 : Int32) (x3 : Int32) : Prop := (150 ≤ x3 → (t_Law_readProduct_46 E I T Q )) ∧ (¬ (150 ≤ x3) → (ev E 31 0 [some (.ref 1)] [] I T (KI (fun v1 I1 T1 => (v1 = 0 → (t_Law_readProduct_46 E I1 T1 Q )) ∧ (¬ (v1 = 0) → (ev E 32 0 [some (.ref 1)] [] I1 T1 (KI (fun v2 I2 T2 => (v2 = 42 → (t_Law_readProduct_25 E I2 T2 Q x2 x3 v2)) ∧ (¬ (v2 = 42) → ((v2 = 47 → (t_Law_readProduct_25 E I2 T2 Q x2 x3 v2)) ∧ (¬ (v2 = 47) → ((v2 = 37 → (t_Law_readProduct_25 E I2 T2 Q x2 x3 v2)) ∧ (¬ (v2 = 37) → (Q (.inl none) I2 T2))))))) (fun x I1 T1 => Q (.inr x) I1 T1))))) (fun x I1 T1 => Q (.inr x) I1 T1))))
theorem s_Law_readProduct_6 {E : MEnv} {I : II} {T : TT} {Q : QQ} {x2 : Int32} {x3 : Int32} (hq : t_Law_readProduct_6 E I T Q x2 x3) : ev E 81 6 [some (.ref 15), some (.ref 1), some (.int x2), some (.int x3), none] [] I T Q := by
  unfold t_Law_readProduct_6 at hq
  refine ev_seq 2 (ip' := 8) (loc' := [some (.ref 15), some (.ref 1), some (.int x2), some (.int x3), none]) (st' := [(.int 150), (.int x3)]) (I1 := I) (T1 := T) rfl ?_
  refine ev_br (p := 150 ≤ x3) (a := 46) (b := 9) (st' := []) inferInstance rfl rfl (fun hb => ?_) (fun hb => ?_)
  · have hq := hq.1 hb
    refine ev_fg [false, false, false, false, true] (loc' := [none, none, none, none, none]) rfl ?_
    exact s_Law_readProduct_46 (T := T) hq
  · have hq := hq.2 hb
    refine ev_seq 1 (ip' := 10) (loc' := [some (.ref 15), some (.ref 1), some (.int x2), some (.int x3), none]) (st' := [(.ref 1)]) (I1 := I) (T1 := T) rfl ?_
    refine ev_callI rfl rfl rfl (fun v1 I1 T1 hq => ?_) (fun x I1 T1 hq => ?_) hq
    · refine ev_br (p := v1 = 0) (a := 46) (b := 12) (st' := []) inferInstance rfl rfl (fun hb => ?_) (fun hb => ?_)
      · have hq := hq.1 hb
        refine ev_fg [false, false, false, false, true] (loc' := [none, none, none, none, none]) rfl ?_
        exact s_Law_readProduct_46 (T := T1) hq
      · have hq := hq.2 hb
        refine ev_seq 1 (ip' := 13) (loc' := [some (.ref 15), some (.ref 1), some (.int x2), some (.int x3), none]) (st' := [(.ref 1)]) (I1 := I1) (T1 := T1) rfl ?_
        refine ev_callI rfl rfl rfl (fun v2 I2 T2 hq => ?_) (fun x I1 T1 hq => ?_) hq
        · refine ev_seq 3 (ip' := 17) (loc' := [some (.ref 15), some (.ref 1), some (.int x2), some (.int x3), some (.int v2)]) (st' := [(.int 42), (.int v2)]) (I1 := I2) (T1 := T2) rfl ?_
          refine ev_br (p := v2 = 42) (a := 25) (b := 18) (st' := []) inferInstance rfl rfl (fun hb => ?_) (fun hb => ?_)
          · have hq := hq.1 hb
            exact s_Law_readProduct_25 (T := T2) hq
          · have hq := hq.2 hb
            refine ev_seq 2 (ip' := 20) (loc' := [some (.ref 15), some (.ref 1), some (.int x2), some (.int x3), some (.int v2)]) (st' := [(.int 47), (.int v2)]) (I1 := I2) (T1 := T2) rfl ?_
            refine ev_br (p := v2 = 47) (a := 25) (b := 21) (st' := []) inferInstance rfl rfl (fun hb => ?_) (fun hb => ?_)
            · have hq := hq.1 hb
              exact s_Law_readProduct_25 (T := T2) hq
            · have hq := hq.2 hb
              refine ev_seq 2 (ip' := 23) (loc' := [some (.ref 15), some (.ref 1), some (.int x2), some (.int x3), some (.int v2)]) (st' := [(.int 37), (.int v2)]) (I1 := I2) (T1 := T2) rfl ?_
              refine ev_br (p := v2 = 37) (a := 25) (b := 24) (st' := []) inferInstance rfl rfl (fun hb => ?_) (fun hb => ?_)
              · have hq := hq.1 hb
                exact s_Law_readProduct_25 (T := T2) hq
              · have hq := hq.2 hb
                exact ev_ret rfl rfl hq
        · exact ⟨by decide, hq⟩
    · exact ⟨by decide, hq⟩
def t_Law_readProduct_0 (E : MEnv) (I : II) (T : TT) (Q : QQ) (x2 : Int32) : Prop := ev E 82 0 [some (.ref 15), some (.ref 1), some (.int x2), none, none] [] I T (KV (fun I1 T1 => t_Law_readProduct_6 E I1 T1 Q x2 0) (fun x I1 T1 => Q (.inr x) I1 T1))
theorem s_Law_readProduct_0 {E : MEnv} {I : II} {T : TT} {Q : QQ} {x2 : Int32} (hq : t_Law_readProduct_0 E I T Q x2) : ev E 81 0 [some (.ref 15), some (.ref 1), some (.int x2), none, none] [] I T Q := by
  unfold t_Law_readProduct_0 at hq
  refine ev_seq 3 (ip' := 3) (loc' := [some (.ref 15), some (.ref 1), some (.int x2), none, none]) (st' := [(.int x2), (.ref 1), (.ref 15)]) (I1 := I) (T1 := T) rfl ?_
  refine ev_callV rfl rfl rfl (fun I1 T1 hq => ?_) (fun x I1 T1 hq => ?_) hq
  · refine ev_seq 2 (ip' := 6) (loc' := [some (.ref 15), some (.ref 1), some (.int x2), some (.int 0), none]) (st' := []) (I1 := I1) (T1 := T1) rfl ?_
    exact s_Law_readProduct_6 (T := T1) hq
  · exact ⟨by decide, hq⟩
/-- FeltHarness$Law.readSum(LFeltHarness$Text;I)V -/
def t_Law_readSum_38 (E : MEnv) (I : II) (T : TT) (Q : QQ) : Prop := Q (.inl none) I T
theorem s_Law_readSum_38 {E : MEnv} {I : II} {T : TT} {Q : QQ} (hq : t_Law_readSum_38 E I T Q) : ev E 80 38 [none, none, none, none, none] [] I T Q := by
  unfold t_Law_readSum_38 at hq
  exact ev_ret rfl rfl hq
def t_Law_readSum_35 (E : MEnv) (I : II) (T : TT) (Q : QQ) (x2 : Int32) (x3 : Int32) (y1 : Int32) : Prop := ev E 6 0 [some (.ref 15), some (.int y1)] [] I T (KV (fun I1 T1 => ev E 80 6 [some (.ref 15), some (.ref 1), some (.int x2), some (.int (x3 + 1)), none] [] I1 T1 Q) (fun x I1 T1 => Q (.inr x) I1 T1))
theorem s_Law_readSum_35 {E : MEnv} {I : II} {T : TT} {Q : QQ} {x2 : Int32} {x3 : Int32} {y1 : Int32} (hq : t_Law_readSum_35 E I T Q x2 x3 y1) : ev E 80 35 [some (.ref 15), some (.ref 1), some (.int x2), some (.int x3), none] [(.int y1), (.ref 15)] I T Q := by
  unfold t_Law_readSum_35 at hq
  refine ev_callV rfl rfl rfl (fun I1 T1 hq => ?_) (fun x I1 T1 hq => ?_) hq
  · refine ev_seq 2 (ip' := 6) (loc' := [some (.ref 15), some (.ref 1), some (.int x2), some (.int (x3 + 1)), none]) (st' := []) (I1 := I1) (T1 := T1) rfl ?_
    exact hq
  · exact ⟨by decide, hq⟩
def t_Law_readSum_22 (E : MEnv) (I : II) (T : TT) (Q : QQ) (x2 : Int32) (x3 : Int32) (x4 : Int32) : Prop := ev E 52 0 [some (.ref 1)] [] I T (KV (fun I1 T1 => ev E 81 0 [some (.ref 15), some (.ref 1), some (.int x2), none, none] [] I1 T1 (KV (fun I2 T2 => (x4 = 43 → (t_Law_readSum_35 E I2 T2 Q x2 x3 (-9))) ∧ (¬ (x4 = 43) → (t_Law_readSum_35 E I2 T2 Q x2 x3 (-10)))) (fun x I1 T1 => Q (.inr x) I1 T1))) (fun x I1 T1 => Q (.inr x) I1 T1))
theorem s_Law_readSum_22 {E : MEnv} {I : II} {T : TT} {Q : QQ} {x2 : Int32} {x3 : Int32} {x4 : Int32} (hq : t_Law_readSum_22 E I T Q x2 x3 x4) : ev E 80 22 [some (.ref 15), some (.ref 1), some (.int x2), some (.int x3), some (.int x4)] [] I T Q := by
  unfold t_Law_readSum_22 at hq
  refine ev_seq 1 (ip' := 23) (loc' := [some (.ref 15), some (.ref 1), some (.int x2), some (.int x3), some (.int x4)]) (st' := [(.ref 1)]) (I1 := I) (T1 := T) rfl ?_
  refine ev_callV rfl rfl rfl (fun I1 T1 hq => ?_) (fun x I1 T1 hq => ?_) hq
  · refine ev_seq 3 (ip' := 27) (loc' := [some (.ref 15), some (.ref 1), some (.int x2), some (.int x3), some (.int x4)]) (st' := [(.int x2), (.ref 1), (.ref 15)]) (I1 := I1) (T1 := T1) rfl ?_
    refine ev_callV rfl rfl rfl (fun I2 T2 hq => ?_) (fun x I1 T1 hq => ?_) hq
    · refine ev_seq 3 (ip' := 31) (loc' := [some (.ref 15), some (.ref 1), some (.int x2), some (.int x3), some (.int x4)]) (st' := [(.int 43), (.int x4), (.ref 15)]) (I1 := I2) (T1 := T2) rfl ?_
      refine ev_br (p := x4 = 43) (a := 32) (b := 34) (st' := [(.ref 15)]) inferInstance rfl rfl (fun hb => ?_) (fun hb => ?_)
      · have hq := hq.1 hb
        refine ev_seq 2 (ip' := 35) (loc' := [some (.ref 15), some (.ref 1), some (.int x2), some (.int x3), some (.int x4)]) (st' := [(.int (-9)), (.ref 15)]) (I1 := I2) (T1 := T2) rfl ?_
        refine ev_fg [true, true, true, true, false] (loc' := [some (.ref 15), some (.ref 1), some (.int x2), some (.int x3), none]) rfl ?_
        exact s_Law_readSum_35 (T := T2) hq
      · have hq := hq.2 hb
        refine ev_seq 1 (ip' := 35) (loc' := [some (.ref 15), some (.ref 1), some (.int x2), some (.int x3), some (.int x4)]) (st' := [(.int (-10)), (.ref 15)]) (I1 := I2) (T1 := T2) rfl ?_
        refine ev_fg [true, true, true, true, false] (loc' := [some (.ref 15), some (.ref 1), some (.int x2), some (.int x3), none]) rfl ?_
        exact s_Law_readSum_35 (T := T2) hq
    · exact ⟨by decide, hq⟩
  · exact ⟨by decide, hq⟩
def t_Law_readSum_6 (E : MEnv) (I : II) (T : TT) (Q : QQ) (x2 : Int32) (x3 : Int32) : Prop := (150 ≤ x3 → (t_Law_readSum_38 E I T Q )) ∧ (¬ (150 ≤ x3) → (ev E 31 0 [some (.ref 1)] [] I T (KI (fun v1 I1 T1 => (v1 = 0 → (t_Law_readSum_38 E I1 T1 Q )) ∧ (¬ (v1 = 0) → (ev E 32 0 [some (.ref 1)] [] I1 T1 (KI (fun v2 I2 T2 => (v2 = 43 → (t_Law_readSum_22 E I2 T2 Q x2 x3 v2)) ∧ (¬ (v2 = 43) → ((v2 = 45 → (t_Law_readSum_22 E I2 T2 Q x2 x3 v2)) ∧ (¬ (v2 = 45) → (Q (.inl none) I2 T2))))) (fun x I1 T1 => Q (.inr x) I1 T1))))) (fun x I1 T1 => Q (.inr x) I1 T1))))
theorem s_Law_readSum_6 {E : MEnv} {I : II} {T : TT} {Q : QQ} {x2 : Int32} {x3 : Int32} (hq : t_Law_readSum_6 E I T Q x2 x3) : ev E 80 6 [some (.ref 15), some (.ref 1), some (.int x2), some (.int x3), none] [] I T Q := by
  unfold t_Law_readSum_6 at hq
  refine ev_seq 2 (ip' := 8) (loc' := [some (.ref 15), some (.ref 1), some (.int x2), some (.int x3), none]) (st' := [(.int 150), (.int x3)]) (I1 := I) (T1 := T) rfl ?_
  refine ev_br (p := 150 ≤ x3) (a := 38) (b := 9) (st' := []) inferInstance rfl rfl (fun hb => ?_) (fun hb => ?_)
  · have hq := hq.1 hb
    refine ev_fg [false, false, false, false, true] (loc' := [none, none, none, none, none]) rfl ?_
    exact s_Law_readSum_38 (T := T) hq
  · have hq := hq.2 hb
    refine ev_seq 1 (ip' := 10) (loc' := [some (.ref 15), some (.ref 1), some (.int x2), some (.int x3), none]) (st' := [(.ref 1)]) (I1 := I) (T1 := T) rfl ?_
    refine ev_callI rfl rfl rfl (fun v1 I1 T1 hq => ?_) (fun x I1 T1 hq => ?_) hq
    · refine ev_br (p := v1 = 0) (a := 38) (b := 12) (st' := []) inferInstance rfl rfl (fun hb => ?_) (fun hb => ?_)
      · have hq := hq.1 hb
        refine ev_fg [false, false, false, false, true] (loc' := [none, none, none, none, none]) rfl ?_
        exact s_Law_readSum_38 (T := T1) hq
      · have hq := hq.2 hb
        refine ev_seq 1 (ip' := 13) (loc' := [some (.ref 15), some (.ref 1), some (.int x2), some (.int x3), none]) (st' := [(.ref 1)]) (I1 := I1) (T1 := T1) rfl ?_
        refine ev_callI rfl rfl rfl (fun v2 I2 T2 hq => ?_) (fun x I1 T1 hq => ?_) hq
        · refine ev_seq 3 (ip' := 17) (loc' := [some (.ref 15), some (.ref 1), some (.int x2), some (.int x3), some (.int v2)]) (st' := [(.int 43), (.int v2)]) (I1 := I2) (T1 := T2) rfl ?_
          refine ev_br (p := v2 = 43) (a := 22) (b := 18) (st' := []) inferInstance rfl rfl (fun hb => ?_) (fun hb => ?_)
          · have hq := hq.1 hb
            exact s_Law_readSum_22 (T := T2) hq
          · have hq := hq.2 hb
            refine ev_seq 2 (ip' := 20) (loc' := [some (.ref 15), some (.ref 1), some (.int x2), some (.int x3), some (.int v2)]) (st' := [(.int 45), (.int v2)]) (I1 := I2) (T1 := T2) rfl ?_
            refine ev_br (p := v2 = 45) (a := 22) (b := 21) (st' := []) inferInstance rfl rfl (fun hb => ?_) (fun hb => ?_)
            · have hq := hq.1 hb
              exact s_Law_readSum_22 (T := T2) hq
            · have hq := hq.2 hb
              exact ev_ret rfl rfl hq
        · exact ⟨by decide, hq⟩
    · exact ⟨by decide, hq⟩
def t_Law_readSum_0 (E : MEnv) (I : II) (T : TT) (Q : QQ) (x2 : Int32) : Prop := ev E 81 0 [some (.ref 15), some (.ref 1), some (.int x2), none, none] [] I T (KV (fun I1 T1 => t_Law_readSum_6 E I1 T1 Q x2 0) (fun x I1 T1 => Q (.inr x) I1 T1))
theorem s_Law_readSum_0 {E : MEnv} {I : II} {T : TT} {Q : QQ} {x2 : Int32} (hq : t_Law_readSum_0 E I T Q x2) : ev E 80 0 [some (.ref 15), some (.ref 1), some (.int x2), none, none] [] I T Q := by
  unfold t_Law_readSum_0 at hq
  refine ev_seq 3 (ip' := 3) (loc' := [some (.ref 15), some (.ref 1), some (.int x2), none, none]) (st' := [(.int x2), (.ref 1), (.ref 15)]) (I1 := I) (T1 := T) rfl ?_
  refine ev_callV rfl rfl rfl (fun I1 T1 hq => ?_) (fun x I1 T1 hq => ?_) hq
  · refine ev_seq 2 (ip' := 6) (loc' := [some (.ref 15), some (.ref 1), some (.int x2), some (.int 0), none]) (st' := []) (I1 := I1) (T1 := T1) rfl ?_
    exact s_Law_readSum_6 (T := T1) hq
  · exact ⟨by decide, hq⟩
/-- FeltHarness$Law.readUnit(LFeltHarness$Text;I)V -/
def t_Law_readUnit_46 (E : MEnv) (I : II) (T : TT) (Q : QQ) : Prop := Q (.inl none) I T
theorem s_Law_readUnit_46 {E : MEnv} {I : II} {T : TT} {Q : QQ} (hq : t_Law_readUnit_46 E I T Q) : ev E 82 46 [none, none, none, none, none] [] I T Q := by
  unfold t_Law_readUnit_46 at hq
  exact ev_ret rfl rfl hq
def t_Law_readUnit_37 (E : MEnv) (I : II) (T : TT) (Q : QQ) (y2 : Int32) (y3 : Int32) : Prop := ev E 84 0 [some (.ref 15), some (.ref 1), some (.int y2), some (.int y3)] [] I T (KV (fun I1 T1 => t_Law_readUnit_46 E I1 T1 Q ) (fun x I1 T1 => Q (.inr x) I1 T1))
theorem s_Law_readUnit_37 {E : MEnv} {I : II} {T : TT} {Q : QQ} {y2 : Int32} {y3 : Int32} (hq : t_Law_readUnit_37 E I T Q y2 y3) : ev E 82 37 [none, none, none, none, none] [(.int y3), (.int y2), (.ref 1), (.ref 15)] I T Q := by
  unfold t_Law_readUnit_37 at hq
  refine ev_callV rfl rfl rfl (fun I1 T1 hq => ?_) (fun x I1 T1 hq => ?_) hq
  · refine ev_seq 1 (ip' := 46) (loc' := [none, none, none, none, none]) (st' := []) (I1 := I1) (T1 := T1) rfl ?_
    exact s_Law_readUnit_46 (T := T1) hq
  · exact ⟨by decide, hq⟩
def t_Law_readUnit_0 (E : MEnv) (I : II) (T : TT) (Q : QQ) (x2 : Int32) : Prop := ev E 32 0 [some (.ref 1)] [] I T (KI (fun v1 I1 T1 => ev E 48 0 [some (.int v1)] [] I1 T1 (KI (fun v2 I2 T2 => (v2 = 0 → ((v1 = 40 → (ev E 83 0 [some (.ref 15), some (.ref 1), some (.int x2)] [] I2 T2 (KV (fun I3 T3 => t_Law_readUnit_46 E I3 T3 Q ) (fun x I1 T1 => Q (.inr x) I1 T1)))) ∧ (¬ (v1 = 40) → (ev E 34 0 [some (.ref 1), some (.ref 1000004), none, none, none] [] I2 T2 (KI (fun v4 I4 T4 => (v4 < 8 → ((v4 < 0 → (t_Law_readUnit_46 E I4 T4 Q )) ∧ (¬ (v4 < 0) → (ev E 6 0 [some (.ref 15), some (.int ((-1) - v4))] [] I4 T4 (KV (fun I5 T5 => t_Law_readUnit_46 E I5 T5 Q ) (fun x I1 T1 => Q (.inr x) I1 T1)))))) ∧ (¬ (v4 < 8) → ((v4 = 8 → (t_Law_readUnit_37 E I4 T4 Q x2 (-14))) ∧ (¬ (v4 = 8) → (t_Law_readUnit_37 E I4 T4 Q x2 (-15)))))) (fun x I1 T1 => Q (.inr x) I1 T1)))))) ∧ (¬ (v2 = 0) → (ev E 47 0 [some (.ref 1), some (.int 0), some (.int 999), none, none] [] I2 T2 (KI (fun v6 I6 T6 => ev E 6 0 [some (.ref 15), some (.int v6)] [] I6 T6 (KV (fun I7 T7 => t_Law_readUnit_46 E I7 T7 Q ) (fun x I1 T1 => Q (.inr x) I1 T1))) (fun x I1 T1 => Q (.inr x) I1 T1))))) (fun _ _ _ => False))) (fun x I1 T1 => Q (.inr x) I1 T1))
theorem s_Law_readUnit_0 {E : MEnv} {I : II} {T : TT} {Q : QQ} {x2 : Int32} (hq : t_Law_readUnit_0 E I T Q x2) : ev E 82 0 [some (.ref 15), some (.ref 1), some (.int x2), none, none] [] I T Q := by
  unfold t_Law_readUnit_0 at hq
  refine ev_seq 1 (ip' := 1) (loc' := [some (.ref 15), some (.ref 1), some (.int x2), none, none]) (st' := [(.ref 1)]) (I1 := I) (T1 := T) rfl ?_
  refine ev_callI rfl rfl rfl (fun v1 I1 T1 hq => ?_) (fun x I1 T1 hq => ?_) hq
  · refine ev_seq 2 (ip' := 4) (loc' := [some (.ref 15), some (.ref 1), some (.int x2), some (.int v1), none]) (st' := [(.int v1)]) (I1 := I1) (T1 := T1) rfl ?_
    refine ev_callI rfl rfl rfl (fun v2 I2 T2 hq => ?_) (fun x I1 T1 hq => ?_) hq
    · refine ev_br (p := v2 = 0) (a := 13) (b := 6) (st' := []) inferInstance rfl rfl (fun hb => ?_) (fun hb => ?_)
      · have hq := hq.1 hb
        refine ev_seq 2 (ip' := 15) (loc' := [some (.ref 15), some (.ref 1), some (.int x2), some (.int v1), none]) (st' := [(.int 40), (.int v1)]) (I1 := I2) (T1 := T2) rfl ?_
        refine ev_br (p := v1 = 40) (a := 16) (b := 21) (st' := []) inferInstance rfl rfl (fun hb => ?_) (fun hb => ?_)
        · have hq := hq.1 hb
          refine ev_seq 3 (ip' := 19) (loc' := [some (.ref 15), some (.ref 1), some (.int x2), some (.int v1), none]) (st' := [(.int x2), (.ref 1), (.ref 15)]) (I1 := I2) (T1 := T2) rfl ?_
          refine ev_callV rfl rfl rfl (fun I3 T3 hq => ?_) (fun x I1 T1 hq => ?_) hq
          · refine ev_seq 1 (ip' := 46) (loc' := [some (.ref 15), some (.ref 1), some (.int x2), some (.int v1), none]) (st' := []) (I1 := I3) (T1 := T3) rfl ?_
            refine ev_fg [false, false, false, false, true] (loc' := [none, none, none, none, none]) rfl ?_
            exact s_Law_readUnit_46 (T := T3) hq
          · exact ⟨by decide, hq⟩
        · have hq := hq.2 hb
          refine ev_seq 2 (ip' := 23) (loc' := [some (.ref 15), some (.ref 1), some (.int x2), some (.int v1), none]) (st' := [(.ref 1000004), (.ref 1)]) (I1 := I2) (T1 := T2) rfl ?_
          refine ev_callI rfl rfl rfl (fun v4 I4 T4 hq => ?_) (fun x I1 T1 hq => ?_) hq
          · refine ev_seq 3 (ip' := 27) (loc' := [some (.ref 15), some (.ref 1), some (.int x2), some (.int v1), some (.int v4)]) (st' := [(.int 8), (.int v4)]) (I1 := I4) (T1 := T4) rfl ?_
            refine ev_br (p := v4 < 8) (a := 39) (b := 28) (st' := []) inferInstance rfl rfl (fun hb => ?_) (fun hb => ?_)
            · have hq := hq.1 hb
              refine ev_seq 1 (ip' := 40) (loc' := [some (.ref 15), some (.ref 1), some (.int x2), some (.int v1), some (.int v4)]) (st' := [(.int v4)]) (I1 := I4) (T1 := T4) rfl ?_
              refine ev_br (p := v4 < 0) (a := 46) (b := 41) (st' := []) inferInstance rfl rfl (fun hb => ?_) (fun hb => ?_)
              · have hq := hq.1 hb
                refine ev_fg [false, false, false, false, false] (loc' := [none, none, none, none, none]) rfl ?_
                exact s_Law_readUnit_46 (T := T4) hq
              · have hq := hq.2 hb
                refine ev_seq 4 (ip' := 45) (loc' := [some (.ref 15), some (.ref 1), some (.int x2), some (.int v1), some (.int v4)]) (st' := [(.int ((-1) - v4)), (.ref 15)]) (I1 := I4) (T1 := T4) rfl ?_
                refine ev_callV rfl rfl rfl (fun I5 T5 hq => ?_) (fun x I1 T1 hq => ?_) hq
                · refine ev_fg [false, false, false, false, false] (loc' := [none, none, none, none, none]) rfl ?_
                  exact s_Law_readUnit_46 (T := T5) hq
                · exact ⟨by decide, hq⟩
            · have hq := hq.2 hb
              refine ev_seq 5 (ip' := 33) (loc' := [some (.ref 15), some (.ref 1), some (.int x2), some (.int v1), some (.int v4)]) (st' := [(.int 8), (.int v4), (.int x2), (.ref 1), (.ref 15)]) (I1 := I4) (T1 := T4) rfl ?_
              refine ev_br (p := v4 = 8) (a := 34) (b := 36) (st' := [(.int x2), (.ref 1), (.ref 15)]) inferInstance rfl rfl (fun hb => ?_) (fun hb => ?_)
              · have hq := hq.1 hb
                refine ev_seq 2 (ip' := 37) (loc' := [some (.ref 15), some (.ref 1), some (.int x2), some (.int v1), some (.int v4)]) (st' := [(.int (-14)), (.int x2), (.ref 1), (.ref 15)]) (I1 := I4) (T1 := T4) rfl ?_
                refine ev_fg [false, false, false, false, false] (loc' := [none, none, none, none, none]) rfl ?_
                exact s_Law_readUnit_37 (T := T4) hq
              · have hq := hq.2 hb
                refine ev_seq 1 (ip' := 37) (loc' := [some (.ref 15), some (.ref 1), some (.int x2), some (.int v1), some (.int v4)]) (st' := [(.int (-15)), (.int x2), (.ref 1), (.ref 15)]) (I1 := I4) (T1 := T4) rfl ?_
                refine ev_fg [false, false, false, false, false] (loc' := [none, none, none, none, none]) rfl ?_
                exact s_Law_readUnit_37 (T := T4) hq
          · exact ⟨by decide, hq⟩
      · have hq := hq.2 hb
        refine ev_seq 4 (ip' := 10) (loc' := [some (.ref 15), some (.ref 1), some (.int x2), some (.int v1), none]) (st' := [(.int 999), (.int 0), (.ref 1), (.ref 15)]) (I1 := I2) (T1 := T2) rfl ?_
        refine ev_callI rfl rfl rfl (fun v6 I6 T6 hq => ?_) (fun x I1 T1 hq => ?_) hq
        · refine ev_callV rfl rfl rfl (fun I7 T7 hq => ?_) (fun x I1 T1 hq => ?_) hq
          · refine ev_seq 1 (ip' := 46) (loc' := [some (.ref 15), some (.ref 1), some (.int x2), some (.int v1), none]) (st' := []) (I1 := I7) (T1 := T7) rfl ?_
            refine ev_fg [false, false, false, false, true] (loc' := [none, none, none, none, none]) rfl ?_
            exact s_Law_readUnit_46 (T := T7) hq
          · exact ⟨by decide, hq⟩
        · exact ⟨by decide, hq⟩
    · exact hq.elim
  · exact ⟨by decide, hq⟩
/-- FeltHarness$Law.tellFeeling(IIII)V -/
def t_Law_tellFeeling_0 (E : MEnv) (I : II) (T : TT) (Q : QQ) (x1 : Int32) (x2 : Int32) (x3 : Int32) (x4 : Int32) : Prop := Q (.inl none) (m_up (m_up (m_up (m_up I 18 0 x1) 18 1 x2) 18 2 x3) 18 3 x4) T
theorem s_Law_tellFeeling_0 {E : MEnv} {I : II} {T : TT} {Q : QQ} {x1 : Int32} {x2 : Int32} {x3 : Int32} {x4 : Int32} (hq : t_Law_tellFeeling_0 E I T Q x1 x2 x3 x4) : ev E 128 0 [some (.ref 15), some (.int x1), some (.int x2), some (.int x3), some (.int x4)] [] I T Q := by
  unfold t_Law_tellFeeling_0 at hq
  refine ev_seq 20 (ip' := 20) (loc' := [some (.ref 15), some (.int x1), some (.int x2), some (.int x3), some (.int x4)]) (st' := []) (I1 := m_up (m_up (m_up (m_up I 18 0 x1) 18 1 x2) 18 2 x3) 18 3 x4) (T1 := T) rfl ?_
  exact ev_ret rfl rfl hq
/-- FeltHarness$Law.tellRoad(IIII)V -/
def t_Law_tellRoad_0 (E : MEnv) (I : II) (T : TT) (Q : QQ) (x1 : Int32) (x2 : Int32) (x3 : Int32) (x4 : Int32) : Prop := Q (.inl none) (m_up (m_up (m_up (m_up I 18 4 x1) 18 5 x2) 18 6 x3) 18 7 x4) T
theorem s_Law_tellRoad_0 {E : MEnv} {I : II} {T : TT} {Q : QQ} {x1 : Int32} {x2 : Int32} {x3 : Int32} {x4 : Int32} (hq : t_Law_tellRoad_0 E I T Q x1 x2 x3 x4) : ev E 129 0 [some (.ref 15), some (.int x1), some (.int x2), some (.int x3), some (.int x4)] [] I T Q := by
  unfold t_Law_tellRoad_0 at hq
  refine ev_seq 20 (ip' := 20) (loc' := [some (.ref 15), some (.int x1), some (.int x2), some (.int x3), some (.int x4)]) (st' := []) (I1 := m_up (m_up (m_up (m_up I 18 4 x1) 18 5 x2) 18 6 x3) 18 7 x4) (T1 := T) rfl ?_
  exact ev_ret rfl rfl hq
/-- FeltHarness$Law.variable(I)I -/
def t_Law_variable_13 (E : MEnv) (I : II) (T : TT) (Q : QQ) (y0 : Int32) : Prop := Q (.inl (some (.int y0))) I T
theorem s_Law_variable_13 {E : MEnv} {I : II} {T : TT} {Q : QQ} {y0 : Int32} (hq : t_Law_variable_13 E I T Q y0) : ev E 132 13 [none, none] [(.int y0)] I T Q := by
  unfold t_Law_variable_13 at hq
  exact ev_ret rfl rfl hq
def t_Law_variable_12 (E : MEnv) (I : II) (T : TT) (Q : QQ) : Prop := t_Law_variable_13 E I T Q 0
theorem s_Law_variable_12 {E : MEnv} {I : II} {T : TT} {Q : QQ} (hq : t_Law_variable_12 E I T Q) : ev E 132 12 [none, none] [] I T Q := by
  unfold t_Law_variable_12 at hq
  refine ev_seq 1 (ip' := 13) (loc' := [none, none]) (st' := [(.int 0)]) (I1 := I) (T1 := T) rfl ?_
  exact s_Law_variable_13 (T := T) hq
def t_Law_variable_0 (E : MEnv) (I : II) (T : TT) (Q : QQ) (x1 : Int32) : Prop := (x1 < 0 → (t_Law_variable_12 E I T Q )) ∧ (¬ (x1 < 0) → ((8 ≤ x1 → (t_Law_variable_12 E I T Q )) ∧ (¬ (8 ≤ x1) → ((¬ x1 < 0 ∧ x1.toNatClampNeg < 8) ∧ (t_Law_variable_13 E I T Q (I 18 x1.toNatClampNeg))))))
theorem s_Law_variable_0 {E : MEnv} {I : II} {T : TT} {Q : QQ} {x1 : Int32} (hq : t_Law_variable_0 E I T Q x1) : ev E 132 0 [some (.ref 15), some (.int x1)] [] I T Q := by
  unfold t_Law_variable_0 at hq
  refine ev_seq 1 (ip' := 1) (loc' := [some (.ref 15), some (.int x1)]) (st' := [(.int x1)]) (I1 := I) (T1 := T) rfl ?_
  refine ev_br (p := x1 < 0) (a := 12) (b := 2) (st' := []) inferInstance rfl rfl (fun hb => ?_) (fun hb => ?_)
  · have hq := hq.1 hb
    refine ev_fg [false, false] (loc' := [none, none]) rfl ?_
    exact s_Law_variable_12 (T := T) hq
  · have hq := hq.2 hb
    refine ev_seq 4 (ip' := 6) (loc' := [some (.ref 15), some (.int x1)]) (st' := [(.int 8), (.int x1)]) (I1 := I) (T1 := T) rfl ?_
    refine ev_br (p := 8 ≤ x1) (a := 12) (b := 7) (st' := []) inferInstance rfl rfl (fun hb => ?_) (fun hb => ?_)
    · have hq := hq.1 hb
      refine ev_fg [false, false] (loc' := [none, none]) rfl ?_
      exact s_Law_variable_12 (T := T) hq
    · have hq := hq.2 hb
      refine ev_seq 3 (ip' := 10) (loc' := [some (.ref 15), some (.int x1)]) (st' := [(.int x1), (.ref 18)]) (I1 := I) (T1 := T) rfl ?_
      obtain ⟨hg, hq⟩ := hq
      refine ev_iald rfl rfl hg ?_
      refine ev_seq 1 (ip' := 13) (loc' := [some (.ref 15), some (.int x1)]) (st' := [(.int (I 18 x1.toNatClampNeg))]) (I1 := I) (T1 := T) rfl ?_
      refine ev_fg [false, false] (loc' := [none, none]) rfl ?_
      exact s_Law_variable_13 (T := T) hq
/-- FeltHarnessModel.at(I)I -/
def t_M_at_10 (E : MEnv) (I : II) (T : TT) (Q : QQ) (x1 : Int32) (y1 : Int32) : Prop := ev E 58 0 [some (.ref 46), some (.int y1), some (.int 1), some (.int 1)] [] I T (KI (fun v1 I1 T1 => (v1 = 0 → (ev E 151 0 [some (.ref 46), some (.ref 508), some (.int x1), none] [] I1 T1 (KI (fun v2 I2 T2 => Q (.inl (some (.int v2))) I2 T2) (fun x I1 T1 => Q (.inr x) I1 T1)))) ∧ (¬ (v1 = 0) → (Q (.inl (some (.int 0))) I1 T1))) (fun x I1 T1 => Q (.inr x) I1 T1))
theorem s_M_at_10 {E : MEnv} {I : II} {T : TT} {Q : QQ} {x1 : Int32} {y1 : Int32} (hq : t_M_at_10 E I T Q x1 y1) : ev E 199 10 [some (.ref 46), some (.int x1)] [(.int y1), (.ref 46)] I T Q := by
  unfold t_M_at_10 at hq
  refine ev_seq 2 (ip' := 12) (loc' := [some (.ref 46), some (.int x1)]) (st' := [(.int 1), (.int 1), (.int y1), (.ref 46)]) (I1 := I) (T1 := T) rfl ?_
  refine ev_callI rfl rfl rfl (fun v1 I1 T1 hq => ?_) (fun x I1 T1 hq => ?_) hq
  · refine ev_br (p := v1 = 0) (a := 16) (b := 14) (st' := []) inferInstance rfl rfl (fun hb => ?_) (fun hb => ?_)
    · have hq := hq.1 hb
      refine ev_seq 4 (ip' := 20) (loc' := [some (.ref 46), some (.int x1)]) (st' := [(.int x1), (.ref 508), (.ref 46)]) (I1 := I1) (T1 := T1) rfl ?_
      refine ev_callI rfl rfl rfl (fun v2 I2 T2 hq => ?_) (fun x I1 T1 hq => ?_) hq
      · exact ev_ret rfl rfl hq
      · exact ⟨by decide, hq⟩
    · have hq := hq.2 hb
      refine ev_seq 1 (ip' := 15) (loc' := [some (.ref 46), some (.int x1)]) (st' := [(.int 0)]) (I1 := I1) (T1 := T1) rfl ?_
      exact ev_ret rfl rfl hq
  · exact ⟨by decide, hq⟩
def t_M_at_0 (E : MEnv) (I : II) (T : TT) (Q : QQ) (x1 : Int32) : Prop := ev E 200 0 [some (.int x1)] [] (m_up I 46 0 0) T (KI (fun v1 I1 T1 => (v1 = 0 → (t_M_at_10 E I1 T1 Q x1 1)) ∧ (¬ (v1 = 0) → (t_M_at_10 E I1 T1 Q x1 0))) (fun _ _ _ => False))
theorem s_M_at_0 {E : MEnv} {I : II} {T : TT} {Q : QQ} {x1 : Int32} (hq : t_M_at_0 E I T Q x1) : ev E 199 0 [some (.ref 46), some (.int x1)] [] I T Q := by
  unfold t_M_at_0 at hq
  refine ev_seq 5 (ip' := 5) (loc' := [some (.ref 46), some (.int x1)]) (st' := [(.int x1), (.ref 46)]) (I1 := m_up I 46 0 0) (T1 := T) rfl ?_
  refine ev_callI rfl rfl rfl (fun v1 I1 T1 hq => ?_) (fun x I1 T1 hq => ?_) hq
  · refine ev_br (p := v1 = 0) (a := 7) (b := 9) (st' := [(.ref 46)]) inferInstance rfl rfl (fun hb => ?_) (fun hb => ?_)
    · have hq := hq.1 hb
      refine ev_seq 2 (ip' := 10) (loc' := [some (.ref 46), some (.int x1)]) (st' := [(.int 1), (.ref 46)]) (I1 := I1) (T1 := T1) rfl ?_
      exact s_M_at_10 (T := T1) hq
    · have hq := hq.2 hb
      refine ev_seq 1 (ip' := 10) (loc' := [some (.ref 46), some (.int x1)]) (st' := [(.int 0), (.ref 46)]) (I1 := I1) (T1 := T1) rfl ?_
      exact s_M_at_10 (T := T1) hq
  · exact hq.elim
/-- FeltHarnessModel.bad(ZII)Z -/
def t_M_bad_22 (E : MEnv) (I : II) (T : TT) (Q : QQ) (y0 : Int32) : Prop := (y0 = 0 ∨ y0 = 1) ∧ Q (.inl (some (.int y0))) I T
theorem s_M_bad_22 {E : MEnv} {I : II} {T : TT} {Q : QQ} {y0 : Int32} (hq : t_M_bad_22 E I T Q y0) : ev E 58 22 [none, none, none, none] [(.int y0)] I T Q := by
  unfold t_M_bad_22 at hq
  exact ev_retb rfl rfl hq.1 hq.2
def t_M_bad_16 (E : MEnv) (I : II) (T : TT) (Q : QQ) : Prop := ((I 46 0) = 0 → (t_M_bad_22 E I T Q 0)) ∧ (¬ ((I 46 0) = 0) → (t_M_bad_22 E I T Q 1))
theorem s_M_bad_16 {E : MEnv} {I : II} {T : TT} {Q : QQ} (hq : t_M_bad_16 E I T Q) : ev E 58 16 [some (.ref 46), none, none, none] [] I T Q := by
  unfold t_M_bad_16 at hq
  refine ev_seq 2 (ip' := 18) (loc' := [some (.ref 46), none, none, none]) (st' := [(.int (I 46 0))]) (I1 := I) (T1 := T) rfl ?_
  refine ev_br (p := (I 46 0) = 0) (a := 21) (b := 19) (st' := []) inferInstance rfl rfl (fun hb => ?_) (fun hb => ?_)
  · have hq := hq.1 hb
    refine ev_seq 1 (ip' := 22) (loc' := [some (.ref 46), none, none, none]) (st' := [(.int 0)]) (I1 := I) (T1 := T) rfl ?_
    refine ev_fg [false, true, true, true] (loc' := [none, none, none, none]) rfl ?_
    exact s_M_bad_22 (T := T) hq
  · have hq := hq.2 hb
    refine ev_seq 2 (ip' := 22) (loc' := [some (.ref 46), none, none, none]) (st' := [(.int 1)]) (I1 := I) (T1 := T) rfl ?_
    refine ev_fg [false, true, true, true] (loc' := [none, none, none, none]) rfl ?_
    exact s_M_bad_22 (T := T) hq
def t_M_bad_0 (E : MEnv) (I : II) (T : TT) (Q : QQ) (x1 : Int32) (x2 : Int32) (x3 : Int32) : Prop := (x1 = 0 → (t_M_bad_16 E I T Q )) ∧ (¬ (x1 = 0) → (((I 46 0) = 0 → ((¬ x3 < 0 ∧ x3.toNatClampNeg < 2) ∧ ((¬ x3 < 0 ∧ x3.toNatClampNeg < 2) ∧ (t_M_bad_16 E (m_up (m_up I 46 0 x2) 48 x3.toNatClampNeg (((m_up I 46 0 x2) 48 x3.toNatClampNeg) + 1)) T Q )))) ∧ (¬ ((I 46 0) = 0) → (t_M_bad_16 E I T Q ))))
theorem s_M_bad_0 {E : MEnv} {I : II} {T : TT} {Q : QQ} {x1 : Int32} {x2 : Int32} {x3 : Int32} (hq : t_M_bad_0 E I T Q x1 x2 x3) : ev E 58 0 [some (.ref 46), some (.int x1), some (.int x2), some (.int x3)] [] I T Q := by
  unfold t_M_bad_0 at hq
  refine ev_seq 1 (ip' := 1) (loc' := [some (.ref 46), some (.int x1), some (.int x2), some (.int x3)]) (st' := [(.int x1)]) (I1 := I) (T1 := T) rfl ?_
  refine ev_br (p := x1 = 0) (a := 16) (b := 2) (st' := []) inferInstance rfl rfl (fun hb => ?_) (fun hb => ?_)
  · have hq := hq.1 hb
    refine ev_fg [true, false, false, false] (loc' := [some (.ref 46), none, none, none]) rfl ?_
    exact s_M_bad_16 (T := T) hq
  · have hq := hq.2 hb
    refine ev_seq 2 (ip' := 4) (loc' := [some (.ref 46), some (.int x1), some (.int x2), some (.int x3)]) (st' := [(.int (I 46 0))]) (I1 := I) (T1 := T) rfl ?_
    refine ev_br (p := (I 46 0) = 0) (a := 5) (b := 16) (st' := []) inferInstance rfl rfl (fun hb => ?_) (fun hb => ?_)
    · have hq := hq.1 hb
      refine ev_seq 7 (ip' := 12) (loc' := [some (.ref 46), some (.int x1), some (.int x2), some (.int x3)]) (st' := [(.int x3), (.ref 48), (.int x3), (.ref 48)]) (I1 := m_up I 46 0 x2) (T1 := T) rfl ?_
      obtain ⟨hg, hq⟩ := hq
      refine ev_iald rfl rfl hg ?_
      refine ev_seq 2 (ip' := 15) (loc' := [some (.ref 46), some (.int x1), some (.int x2), some (.int x3)]) (st' := [(.int (((m_up I 46 0 x2) 48 x3.toNatClampNeg) + 1)), (.int x3), (.ref 48)]) (I1 := m_up I 46 0 x2) (T1 := T) rfl ?_
      obtain ⟨hg, hq⟩ := hq
      refine ev_iast rfl rfl hg ?_
      refine ev_fg [true, false, false, false] (loc' := [some (.ref 46), none, none, none]) rfl ?_
      exact s_M_bad_16 (T := T) hq
    · have hq := hq.2 hb
      refine ev_fg [true, false, false, false] (loc' := [some (.ref 46), none, none, none]) rfl ?_
      exact s_M_bad_16 (T := T) hq
/-- FeltHarnessModel.becomes([III)Z -/
def t_M_becomes_508_0 (E : MEnv) (I : II) (T : TT) (Q : QQ) (x1 : Int32) (x2 : Int32) : Prop := (¬ x1 < 0 ∧ x1.toNatClampNeg < 29) ∧ (((I 508 x1.toNatClampNeg) = x2 → (Q (.inl (some (.int 0))) I T)) ∧ (¬ ((I 508 x1.toNatClampNeg) = x2) → ((¬ x1 < 0 ∧ x1.toNatClampNeg < 29) ∧ (Q (.inl (some (.int 1))) (m_up I 508 x1.toNatClampNeg x2) T))))
theorem s_M_becomes_508_0 {E : MEnv} {I : II} {T : TT} {Q : QQ} {x1 : Int32} {x2 : Int32} (hq : t_M_becomes_508_0 E I T Q x1 x2) : ev E 153 0 [some (.ref 508), some (.int x1), some (.int x2)] [] I T Q := by
  unfold t_M_becomes_508_0 at hq
  refine ev_seq 2 (ip' := 2) (loc' := [some (.ref 508), some (.int x1), some (.int x2)]) (st' := [(.int x1), (.ref 508)]) (I1 := I) (T1 := T) rfl ?_
  obtain ⟨hg, hq⟩ := hq
  refine ev_iald rfl rfl hg ?_
  refine ev_seq 1 (ip' := 4) (loc' := [some (.ref 508), some (.int x1), some (.int x2)]) (st' := [(.int x2), (.int (I 508 x1.toNatClampNeg))]) (I1 := I) (T1 := T) rfl ?_
  refine ev_br (p := (I 508 x1.toNatClampNeg) = x2) (a := 5) (b := 7) (st' := []) inferInstance rfl rfl (fun hb => ?_) (fun hb => ?_)
  · have hq := hq.1 hb
    refine ev_seq 1 (ip' := 6) (loc' := [some (.ref 508), some (.int x1), some (.int x2)]) (st' := [(.int 0)]) (I1 := I) (T1 := T) rfl ?_
    exact ev_ret rfl rfl hq
  · have hq := hq.2 hb
    refine ev_seq 3 (ip' := 10) (loc' := [some (.ref 508), some (.int x1), some (.int x2)]) (st' := [(.int x2), (.int x1), (.ref 508)]) (I1 := I) (T1 := T) rfl ?_
    obtain ⟨hg, hq⟩ := hq
    refine ev_iast rfl rfl hg ?_
    refine ev_seq 1 (ip' := 12) (loc' := [some (.ref 508), some (.int x1), some (.int x2)]) (st' := [(.int 1)]) (I1 := m_up I 508 x1.toNatClampNeg x2) (T1 := T) rfl ?_
    exact ev_ret rfl rfl hq
/-- FeltHarnessModel.becomes([III)Z -/
def t_M_becomes_509_0 (E : MEnv) (I : II) (T : TT) (Q : QQ) (x1 : Int32) (x2 : Int32) : Prop := (¬ x1 < 0 ∧ x1.toNatClampNeg < 29) ∧ (((I 509 x1.toNatClampNeg) = x2 → (Q (.inl (some (.int 0))) I T)) ∧ (¬ ((I 509 x1.toNatClampNeg) = x2) → ((¬ x1 < 0 ∧ x1.toNatClampNeg < 29) ∧ (Q (.inl (some (.int 1))) (m_up I 509 x1.toNatClampNeg x2) T))))
theorem s_M_becomes_509_0 {E : MEnv} {I : II} {T : TT} {Q : QQ} {x1 : Int32} {x2 : Int32} (hq : t_M_becomes_509_0 E I T Q x1 x2) : ev E 153 0 [some (.ref 509), some (.int x1), some (.int x2)] [] I T Q := by
  unfold t_M_becomes_509_0 at hq
  refine ev_seq 2 (ip' := 2) (loc' := [some (.ref 509), some (.int x1), some (.int x2)]) (st' := [(.int x1), (.ref 509)]) (I1 := I) (T1 := T) rfl ?_
  obtain ⟨hg, hq⟩ := hq
  refine ev_iald rfl rfl hg ?_
  refine ev_seq 1 (ip' := 4) (loc' := [some (.ref 509), some (.int x1), some (.int x2)]) (st' := [(.int x2), (.int (I 509 x1.toNatClampNeg))]) (I1 := I) (T1 := T) rfl ?_
  refine ev_br (p := (I 509 x1.toNatClampNeg) = x2) (a := 5) (b := 7) (st' := []) inferInstance rfl rfl (fun hb => ?_) (fun hb => ?_)
  · have hq := hq.1 hb
    refine ev_seq 1 (ip' := 6) (loc' := [some (.ref 509), some (.int x1), some (.int x2)]) (st' := [(.int 0)]) (I1 := I) (T1 := T) rfl ?_
    exact ev_ret rfl rfl hq
  · have hq := hq.2 hb
    refine ev_seq 3 (ip' := 10) (loc' := [some (.ref 509), some (.int x1), some (.int x2)]) (st' := [(.int x2), (.int x1), (.ref 509)]) (I1 := I) (T1 := T) rfl ?_
    obtain ⟨hg, hq⟩ := hq
    refine ev_iast rfl rfl hg ?_
    refine ev_seq 1 (ip' := 12) (loc' := [some (.ref 509), some (.int x1), some (.int x2)]) (st' := [(.int 1)]) (I1 := m_up I 509 x1.toNatClampNeg x2) (T1 := T) rfl ?_
    exact ev_ret rfl rfl hq
/-- FeltHarnessModel.beginsAnew()V -/
def t_M_beginsAnew_47 (E : MEnv) (I : II) (T : TT) (Q : QQ) (x1 : Int32) : Prop := (8 ≤ x1 → (Q (.inl none) (m_up (m_up (m_up (m_up (m_up I 46 19 0) 46 33 0) 46 34 0) 46 35 0) 46 36 0) T)) ∧ (¬ (8 ≤ x1) → ((¬ x1 < 0 ∧ x1.toNatClampNeg < 8) ∧ ((¬ x1 < 0 ∧ x1.toNatClampNeg < 8) ∧ ((¬ (0 + x1) < 0 ∧ (0 + x1).toNatClampNeg < 29) ∧ ((¬ (8 + x1) < 0 ∧ (8 + x1).toNatClampNeg < 29) ∧ (ev E 19 47 [some (.ref 46), some (.int (x1 + 1))] [] (m_up (m_up (m_up I 84 x1.toNatClampNeg (I 83 x1.toNatClampNeg)) 508 (0 + x1).toNatClampNeg (-1)) 508 (8 + x1).toNatClampNeg 5) T Q))))))
theorem s_M_beginsAnew_47 {E : MEnv} {I : II} {T : TT} {Q : QQ} {x1 : Int32} (hq : t_M_beginsAnew_47 E I T Q x1) : ev E 19 47 [some (.ref 46), some (.int x1)] [] I T Q := by
  unfold t_M_beginsAnew_47 at hq
  refine ev_seq 2 (ip' := 49) (loc' := [some (.ref 46), some (.int x1)]) (st' := [(.int 8), (.int x1)]) (I1 := I) (T1 := T) rfl ?_
  refine ev_br (p := 8 ≤ x1) (a := 74) (b := 50) (st' := []) inferInstance rfl rfl (fun hb => ?_) (fun hb => ?_)
  · have hq := hq.1 hb
    refine ev_seq 15 (ip' := 89) (loc' := [some (.ref 46), some (.int x1)]) (st' := []) (I1 := m_up (m_up (m_up (m_up (m_up I 46 19 0) 46 33 0) 46 34 0) 46 35 0) 46 36 0) (T1 := T) rfl ?_
    exact ev_ret rfl rfl hq
  · have hq := hq.2 hb
    refine ev_seq 6 (ip' := 56) (loc' := [some (.ref 46), some (.int x1)]) (st' := [(.int x1), (.ref 83), (.int x1), (.ref 84)]) (I1 := I) (T1 := T) rfl ?_
    obtain ⟨hg, hq⟩ := hq
    refine ev_iald rfl rfl hg ?_
    obtain ⟨hg, hq⟩ := hq
    refine ev_iast rfl rfl hg ?_
    refine ev_seq 6 (ip' := 64) (loc' := [some (.ref 46), some (.int x1)]) (st' := [(.int (-1)), (.int (0 + x1)), (.ref 508)]) (I1 := m_up I 84 x1.toNatClampNeg (I 83 x1.toNatClampNeg)) (T1 := T) rfl ?_
    obtain ⟨hg, hq⟩ := hq
    refine ev_iast rfl rfl hg ?_
    refine ev_seq 6 (ip' := 71) (loc' := [some (.ref 46), some (.int x1)]) (st' := [(.int 5), (.int (8 + x1)), (.ref 508)]) (I1 := m_up (m_up I 84 x1.toNatClampNeg (I 83 x1.toNatClampNeg)) 508 (0 + x1).toNatClampNeg (-1)) (T1 := T) rfl ?_
    obtain ⟨hg, hq⟩ := hq
    refine ev_iast rfl rfl hg ?_
    refine ev_seq 2 (ip' := 47) (loc' := [some (.ref 46), some (.int (x1 + 1))]) (st' := []) (I1 := m_up (m_up (m_up I 84 x1.toNatClampNeg (I 83 x1.toNatClampNeg)) 508 (0 + x1).toNatClampNeg (-1)) 508 (8 + x1).toNatClampNeg 5) (T1 := T) rfl ?_
    exact hq
def t_M_beginsAnew_35 (E : MEnv) (I : II) (T : TT) (Q : QQ) (x1 : Int32) : Prop := (29 ≤ x1 → (t_M_beginsAnew_47 E I T Q 0)) ∧ (¬ (29 ≤ x1) → ((¬ x1 < 0 ∧ x1.toNatClampNeg < 29) ∧ (ev E 19 35 [some (.ref 46), some (.int (x1 + 1))] [] (m_up I 508 x1.toNatClampNeg 0) T Q)))
theorem s_M_beginsAnew_35 {E : MEnv} {I : II} {T : TT} {Q : QQ} {x1 : Int32} (hq : t_M_beginsAnew_35 E I T Q x1) : ev E 19 35 [some (.ref 46), some (.int x1)] [] I T Q := by
  unfold t_M_beginsAnew_35 at hq
  refine ev_seq 2 (ip' := 37) (loc' := [some (.ref 46), some (.int x1)]) (st' := [(.int 29), (.int x1)]) (I1 := I) (T1 := T) rfl ?_
  refine ev_br (p := 29 ≤ x1) (a := 45) (b := 38) (st' := []) inferInstance rfl rfl (fun hb => ?_) (fun hb => ?_)
  · have hq := hq.1 hb
    refine ev_seq 2 (ip' := 47) (loc' := [some (.ref 46), some (.int 0)]) (st' := []) (I1 := I) (T1 := T) rfl ?_
    exact s_M_beginsAnew_47 (T := T) hq
  · have hq := hq.2 hb
    refine ev_seq 4 (ip' := 42) (loc' := [some (.ref 46), some (.int x1)]) (st' := [(.int 0), (.int x1), (.ref 508)]) (I1 := I) (T1 := T) rfl ?_
    obtain ⟨hg, hq⟩ := hq
    refine ev_iast rfl rfl hg ?_
    refine ev_seq 2 (ip' := 35) (loc' := [some (.ref 46), some (.int (x1 + 1))]) (st' := []) (I1 := m_up I 508 x1.toNatClampNeg 0) (T1 := T) rfl ?_
    exact hq
def t_M_beginsAnew_2 (E : MEnv) (I : II) (T : TT) (Q : QQ) (x1 : Int32) : Prop := (3 ≤ x1 → (ev E 20 0 [some (.ref 51), some (.ref 60), some (.int (I 50 0)), none, none] [] I T (KV (fun I1 T1 => ev E 20 0 [some (.ref 69), some (.ref 76), some (.int (I1 50 1)), none, none] [] I1 T1 (KV (fun I2 T2 => t_M_beginsAnew_35 E I2 T2 Q 0) (fun _ _ _ => False))) (fun _ _ _ => False)))) ∧ (¬ (3 ≤ x1) → ((¬ x1 < 0 ∧ x1.toNatClampNeg < 3) ∧ ((¬ x1 < 0 ∧ x1.toNatClampNeg < 3) ∧ (ev E 19 2 [some (.ref 46), some (.int (x1 + 1))] [] (m_up I 50 x1.toNatClampNeg (I 49 x1.toNatClampNeg)) T Q))))
theorem s_M_beginsAnew_2 {E : MEnv} {I : II} {T : TT} {Q : QQ} {x1 : Int32} (hq : t_M_beginsAnew_2 E I T Q x1) : ev E 19 2 [some (.ref 46), some (.int x1)] [] I T Q := by
  unfold t_M_beginsAnew_2 at hq
  refine ev_seq 2 (ip' := 4) (loc' := [some (.ref 46), some (.int x1)]) (st' := [(.int 3), (.int x1)]) (I1 := I) (T1 := T) rfl ?_
  refine ev_br (p := 3 ≤ x1) (a := 15) (b := 5) (st' := []) inferInstance rfl rfl (fun hb => ?_) (fun hb => ?_)
  · have hq := hq.1 hb
    refine ev_seq 8 (ip' := 23) (loc' := [some (.ref 46), some (.int x1)]) (st' := [(.int (I 50 0)), (.ref 60), (.ref 51)]) (I1 := I) (T1 := T) rfl ?_
    refine ev_callV rfl rfl rfl (fun I1 T1 hq => ?_) (fun x I1 T1 hq => ?_) hq
    · refine ev_seq 8 (ip' := 32) (loc' := [some (.ref 46), some (.int x1)]) (st' := [(.int (I1 50 1)), (.ref 76), (.ref 69)]) (I1 := I1) (T1 := T1) rfl ?_
      refine ev_callV rfl rfl rfl (fun I2 T2 hq => ?_) (fun x I1 T1 hq => ?_) hq
      · refine ev_seq 2 (ip' := 35) (loc' := [some (.ref 46), some (.int 0)]) (st' := []) (I1 := I2) (T1 := T2) rfl ?_
        exact s_M_beginsAnew_35 (T := T2) hq
      · exact hq.elim
    · exact hq.elim
  · have hq := hq.2 hb
    refine ev_seq 6 (ip' := 11) (loc' := [some (.ref 46), some (.int x1)]) (st' := [(.int x1), (.ref 49), (.int x1), (.ref 50)]) (I1 := I) (T1 := T) rfl ?_
    obtain ⟨hg, hq⟩ := hq
    refine ev_iald rfl rfl hg ?_
    obtain ⟨hg, hq⟩ := hq
    refine ev_iast rfl rfl hg ?_
    refine ev_seq 2 (ip' := 2) (loc' := [some (.ref 46), some (.int (x1 + 1))]) (st' := []) (I1 := m_up I 50 x1.toNatClampNeg (I 49 x1.toNatClampNeg)) (T1 := T) rfl ?_
    exact hq
def t_M_beginsAnew_0 (E : MEnv) (I : II) (T : TT) (Q : QQ) : Prop := t_M_beginsAnew_2 E I T Q 0
theorem s_M_beginsAnew_0 {E : MEnv} {I : II} {T : TT} {Q : QQ} (hq : t_M_beginsAnew_0 E I T Q) : ev E 19 0 [some (.ref 46), none] [] I T Q := by
  unfold t_M_beginsAnew_0 at hq
  refine ev_seq 2 (ip' := 2) (loc' := [some (.ref 46), some (.int 0)]) (st' := []) (I1 := I) (T1 := T) rfl ?_
  exact s_M_beginsAnew_2 (T := T) hq
/-- FeltHarnessModel.blanks()V -/
def t_M_blanks_0 (E : MEnv) (I : II) (T : TT) (Q : QQ) : Prop := ev E 61 0 [some (.ref 46), some (.int (I 46 4))] [] I T (KI (fun v1 I1 T1 => (v1 = 32 → (ev E 60 0 [some (.ref 46)] [] (m_up I1 46 4 ((I1 46 4) + 1)) T1 Q)) ∧ (¬ (v1 = 32) → (Q (.inl none) I1 T1))) (fun x I1 T1 => Q (.inr x) I1 T1))
theorem s_M_blanks_0 {E : MEnv} {I : II} {T : TT} {Q : QQ} (hq : t_M_blanks_0 E I T Q) : ev E 60 0 [some (.ref 46)] [] I T Q := by
  unfold t_M_blanks_0 at hq
  refine ev_seq 3 (ip' := 3) (loc' := [some (.ref 46)]) (st' := [(.int (I 46 4)), (.ref 46)]) (I1 := I) (T1 := T) rfl ?_
  refine ev_callI rfl rfl rfl (fun v1 I1 T1 hq => ?_) (fun x I1 T1 hq => ?_) hq
  · refine ev_seq 1 (ip' := 5) (loc' := [some (.ref 46)]) (st' := [(.int 32), (.int v1)]) (I1 := I1) (T1 := T1) rfl ?_
    refine ev_br (p := v1 = 32) (a := 6) (b := 13) (st' := []) inferInstance rfl rfl (fun hb => ?_) (fun hb => ?_)
    · have hq := hq.1 hb
      refine ev_seq 7 (ip' := 0) (loc' := [some (.ref 46)]) (st' := []) (I1 := m_up I1 46 4 ((I1 46 4) + 1)) (T1 := T1) rfl ?_
      exact hq
    · have hq := hq.2 hb
      exact ev_ret rfl rfl hq
  · exact ⟨by decide, hq⟩
/-- FeltHarnessModel.book(I)I -/
def t_M_book_98 (E : MEnv) (I : II) (T : TT) (Q : QQ) (x2 : Int32) : Prop := ((I 46 5) = 0 → (ev E 20 0 [some (.ref 416), some (.ref 407), some (.int x2), none, none] [] (m_up (m_up I 46 3 (-1)) 46 33 x2) T (KV (fun I1 T1 => Q (.inl (some (.int x2))) I1 T1) (fun _ _ _ => False)))) ∧ (¬ ((I 46 5) = 0) → (ev E 75 0 [some (.ref 46)] [] I T (KI (fun v2 I2 T2 => Q (.inl (some (.int v2))) I2 T2) (fun x I1 T1 => Q (.inr x) I1 T1))))
theorem s_M_book_98 {E : MEnv} {I : II} {T : TT} {Q : QQ} {x2 : Int32} (hq : t_M_book_98 E I T Q x2) : ev E 173 98 [some (.ref 46), none, some (.int x2), none, none, none, none] [] I T Q := by
  unfold t_M_book_98 at hq
  refine ev_seq 2 (ip' := 100) (loc' := [some (.ref 46), none, some (.int x2), none, none, none, none]) (st' := [(.int (I 46 5))]) (I1 := I) (T1 := T) rfl ?_
  refine ev_br (p := (I 46 5) = 0) (a := 104) (b := 101) (st' := []) inferInstance rfl rfl (fun hb => ?_) (fun hb => ?_)
  · have hq := hq.1 hb
    refine ev_seq 11 (ip' := 115) (loc' := [some (.ref 46), none, some (.int x2), none, none, none, none]) (st' := [(.int x2), (.ref 407), (.ref 416)]) (I1 := m_up (m_up I 46 3 (-1)) 46 33 x2) (T1 := T) rfl ?_
    refine ev_callV rfl rfl rfl (fun I1 T1 hq => ?_) (fun x I1 T1 hq => ?_) hq
    · refine ev_seq 1 (ip' := 117) (loc' := [some (.ref 46), none, some (.int x2), none, none, none, none]) (st' := [(.int x2)]) (I1 := I1) (T1 := T1) rfl ?_
      exact ev_ret rfl rfl hq
    · exact hq.elim
  · have hq := hq.2 hb
    refine ev_seq 1 (ip' := 102) (loc' := [some (.ref 46), none, some (.int x2), none, none, none, none]) (st' := [(.ref 46)]) (I1 := I) (T1 := T) rfl ?_
    refine ev_callI rfl rfl rfl (fun v2 I2 T2 hq => ?_) (fun x I1 T1 hq => ?_) hq
    · exact ev_ret rfl rfl hq
    · exact ⟨by decide, hq⟩
def t_M_book_95 (E : MEnv) (I : II) (T : TT) (Q : QQ) (x2 : Int32) (x3 : Int32) : Prop := ev E 60 0 [some (.ref 46)] [] I T (KV (fun I1 T1 => ev E 173 29 [some (.ref 46), none, some (.int x2), some (.int x3), none, none, none] [] I1 T1 Q) (fun x I1 T1 => Q (.inr x) I1 T1))
theorem s_M_book_95 {E : MEnv} {I : II} {T : TT} {Q : QQ} {x2 : Int32} {x3 : Int32} (hq : t_M_book_95 E I T Q x2 x3) : ev E 173 95 [some (.ref 46), none, some (.int x2), some (.int x3), none, none, none] [] I T Q := by
  unfold t_M_book_95 at hq
  refine ev_seq 1 (ip' := 96) (loc' := [some (.ref 46), none, some (.int x2), some (.int x3), none, none, none]) (st' := [(.ref 46)]) (I1 := I) (T1 := T) rfl ?_
  refine ev_callV rfl rfl rfl (fun I1 T1 hq => ?_) (fun x I1 T1 hq => ?_) hq
  · refine ev_seq 1 (ip' := 29) (loc' := [some (.ref 46), none, some (.int x2), some (.int x3), none, none, none]) (st' := []) (I1 := I1) (T1 := T1) rfl ?_
    exact hq
  · exact ⟨by decide, hq⟩
def t_M_book_63 (E : MEnv) (I : II) (T : TT) (Q : QQ) (x2 : Int32) (x3 : Int32) (x5 : Int32) : Prop := ev E 71 0 [some (.ref 46), some (.int 0), some (.int 999), none, none] [] I T (KI (fun v1 I1 T1 => ev E 74 0 [some (.ref 46), some (.int 59)] [] I1 T1 (KV (fun I2 T2 => ((I2 46 5) = 0 → ((¬ x2 < 0 ∧ x2.toNatClampNeg < 8) ∧ ((¬ x2 < 0 ∧ x2.toNatClampNeg < 8) ∧ (t_M_book_95 E (m_up (m_up I2 (417 + x2.toNatClampNeg) 0 x5) (417 + x2.toNatClampNeg) 1 v1) T2 Q (x2 + 1) (x3 ||| ((1 : Int32) <<< (x5 &&& 31))))))) ∧ (¬ ((I2 46 5) = 0) → (t_M_book_95 E I2 T2 Q x2 x3))) (fun x I1 T1 => Q (.inr x) I1 T1))) (fun x I1 T1 => Q (.inr x) I1 T1))
theorem s_M_book_63 {E : MEnv} {I : II} {T : TT} {Q : QQ} {x2 : Int32} {x3 : Int32} {x5 : Int32} (hq : t_M_book_63 E I T Q x2 x3 x5) : ev E 173 63 [some (.ref 46), none, some (.int x2), some (.int x3), none, some (.int x5), none] [] I T Q := by
  unfold t_M_book_63 at hq
  refine ev_seq 3 (ip' := 66) (loc' := [some (.ref 46), none, some (.int x2), some (.int x3), none, some (.int x5), none]) (st' := [(.int 999), (.int 0), (.ref 46)]) (I1 := I) (T1 := T) rfl ?_
  refine ev_callI rfl rfl rfl (fun v1 I1 T1 hq => ?_) (fun x I1 T1 hq => ?_) hq
  · refine ev_seq 3 (ip' := 70) (loc' := [some (.ref 46), none, some (.int x2), some (.int x3), none, some (.int x5), some (.int v1)]) (st' := [(.int 59), (.ref 46)]) (I1 := I1) (T1 := T1) rfl ?_
    refine ev_callV rfl rfl rfl (fun I2 T2 hq => ?_) (fun x I1 T1 hq => ?_) hq
    · refine ev_seq 2 (ip' := 73) (loc' := [some (.ref 46), none, some (.int x2), some (.int x3), none, some (.int x5), some (.int v1)]) (st' := [(.int (I2 46 5))]) (I1 := I2) (T1 := T2) rfl ?_
      refine ev_br (p := (I2 46 5) = 0) (a := 74) (b := 95) (st' := []) inferInstance rfl rfl (fun hb => ?_) (fun hb => ?_)
      · have hq := hq.1 hb
        refine ev_seq 9 (ip' := 83) (loc' := [some (.ref 46), none, some (.int x2), some (.int (x3 ||| ((1 : Int32) <<< (x5 &&& 31)))), none, some (.int x5), some (.int v1)]) (st' := [(.int x2), (.ref 416)]) (I1 := I2) (T1 := T2) rfl ?_
        obtain ⟨hg, hq⟩ := hq
        have hr3 := hg
        refine ev_aald rfl rfl hg (RF_416 hg.2) ?_
        refine ev_seq 2 (ip' := 86) (loc' := [some (.ref 46), none, some (.int x2), some (.int (x3 ||| ((1 : Int32) <<< (x5 &&& 31)))), none, some (.int x5), some (.int v1)]) (st' := [(.int x5), (.int 0), (.ref (417 + x2.toNatClampNeg))]) (I1 := I2) (T1 := T2) rfl ?_
        refine ev_iast rfl (KF_416 hr3.2) ⟨by decide, by decide⟩ ?_
        refine ev_seq 3 (ip' := 90) (loc' := [some (.ref 46), none, some (.int x2), some (.int (x3 ||| ((1 : Int32) <<< (x5 &&& 31)))), none, some (.int x5), some (.int v1)]) (st' := [(.int x2), (.ref 416)]) (I1 := m_up I2 (417 + x2.toNatClampNeg) 0 x5) (T1 := T2) rfl ?_
        obtain ⟨hg, hq⟩ := hq
        have hr4 := hg
        refine ev_aald rfl rfl hg (RF_416 hg.2) ?_
        refine ev_seq 2 (ip' := 93) (loc' := [some (.ref 46), none, some (.int x2), some (.int (x3 ||| ((1 : Int32) <<< (x5 &&& 31)))), none, some (.int x5), some (.int v1)]) (st' := [(.int v1), (.int 1), (.ref (417 + x2.toNatClampNeg))]) (I1 := m_up I2 (417 + x2.toNatClampNeg) 0 x5) (T1 := T2) rfl ?_
        refine ev_iast rfl (KF_416 hr4.2) ⟨by decide, by decide⟩ ?_
        refine ev_seq 1 (ip' := 95) (loc' := [some (.ref 46), none, some (.int (x2 + 1)), some (.int (x3 ||| ((1 : Int32) <<< (x5 &&& 31)))), none, some (.int x5), some (.int v1)]) (st' := []) (I1 := m_up (m_up I2 (417 + x2.toNatClampNeg) 0 x5) (417 + x2.toNatClampNeg) 1 v1) (T1 := T2) rfl ?_
        refine ev_fg [true, true, true, true, true, false, false] (loc' := [some (.ref 46), none, some (.int (x2 + 1)), some (.int (x3 ||| ((1 : Int32) <<< (x5 &&& 31)))), none, none, none]) rfl ?_
        exact s_M_book_95 (T := T2) hq
      · have hq := hq.2 hb
        refine ev_fg [true, true, true, true, true, false, false] (loc' := [some (.ref 46), none, some (.int x2), some (.int x3), none, none, none]) rfl ?_
        exact s_M_book_95 (T := T2) hq
    · exact ⟨by decide, hq⟩
  · exact ⟨by decide, hq⟩
def t_M_book_29 (E : MEnv) (I : II) (T : TT) (Q : QQ) (x2 : Int32) (x3 : Int32) : Prop := ((I 46 5) = 0 → (((I 46 2) ≤ (I 46 4) → (t_M_book_98 E I T Q x2)) ∧ (¬ ((I 46 2) ≤ (I 46 4)) → (ev E 60 0 [some (.ref 46)] [] I T (KV (fun I1 T1 => ev E 71 0 [some (.ref 46), some (.int 0), some (.int ((I1 50 0) - 1)), none, none] [] I1 T1 (KI (fun v2 I2 T2 => ((I2 46 5) = 0 → (ev E 166 0 [some (.int x3), some (.int v2)] [] I2 T2 (KI (fun v3 I3 T3 => (v3 = 0 → (t_M_book_63 E I3 T3 Q x2 x3 v2)) ∧ (¬ (v3 = 0) → (ev E 69 0 [some (.ref 46), some (.int 2), some (.int (I1 46 4))] [] I3 T3 (KV (fun I4 T4 => t_M_book_63 E I4 T4 Q x2 x3 v2) (fun x I1 T1 => Q (.inr x) I1 T1))))) (fun _ _ _ => False)))) ∧ (¬ ((I2 46 5) = 0) → (t_M_book_63 E I2 T2 Q x2 x3 v2))) (fun x I1 T1 => Q (.inr x) I1 T1))) (fun x I1 T1 => Q (.inr x) I1 T1)))))) ∧ (¬ ((I 46 5) = 0) → (t_M_book_98 E I T Q x2))
theorem s_M_book_29 {E : MEnv} {I : II} {T : TT} {Q : QQ} {x2 : Int32} {x3 : Int32} (hq : t_M_book_29 E I T Q x2 x3) : ev E 173 29 [some (.ref 46), none, some (.int x2), some (.int x3), none, none, none] [] I T Q := by
  unfold t_M_book_29 at hq
  refine ev_seq 2 (ip' := 31) (loc' := [some (.ref 46), none, some (.int x2), some (.int x3), none, none, none]) (st' := [(.int (I 46 5))]) (I1 := I) (T1 := T) rfl ?_
  refine ev_br (p := (I 46 5) = 0) (a := 32) (b := 98) (st' := []) inferInstance rfl rfl (fun hb => ?_) (fun hb => ?_)
  · have hq := hq.1 hb
    refine ev_seq 4 (ip' := 36) (loc' := [some (.ref 46), none, some (.int x2), some (.int x3), none, none, none]) (st' := [(.int (I 46 2)), (.int (I 46 4))]) (I1 := I) (T1 := T) rfl ?_
    refine ev_br (p := (I 46 2) ≤ (I 46 4)) (a := 98) (b := 37) (st' := []) inferInstance rfl rfl (fun hb => ?_) (fun hb => ?_)
    · have hq := hq.1 hb
      refine ev_fg [true, true, true, false, true, true, true] (loc' := [some (.ref 46), none, some (.int x2), none, none, none, none]) rfl ?_
      exact s_M_book_98 (T := T) hq
    · have hq := hq.2 hb
      refine ev_seq 1 (ip' := 38) (loc' := [some (.ref 46), none, some (.int x2), some (.int x3), none, none, none]) (st' := [(.ref 46)]) (I1 := I) (T1 := T) rfl ?_
      refine ev_callV rfl rfl rfl (fun I1 T1 hq => ?_) (fun x I1 T1 hq => ?_) hq
      · refine ev_seq 11 (ip' := 50) (loc' := [some (.ref 46), none, some (.int x2), some (.int x3), some (.int (I1 46 4)), none, none]) (st' := [(.int ((I1 50 0) - 1)), (.int 0), (.ref 46)]) (I1 := I1) (T1 := T1) rfl ?_
        refine ev_callI rfl rfl rfl (fun v2 I2 T2 hq => ?_) (fun x I1 T1 hq => ?_) hq
        · refine ev_seq 3 (ip' := 54) (loc' := [some (.ref 46), none, some (.int x2), some (.int x3), some (.int (I1 46 4)), some (.int v2), none]) (st' := [(.int (I2 46 5))]) (I1 := I2) (T1 := T2) rfl ?_
          refine ev_br (p := (I2 46 5) = 0) (a := 55) (b := 63) (st' := []) inferInstance rfl rfl (fun hb => ?_) (fun hb => ?_)
          · have hq := hq.1 hb
            refine ev_seq 2 (ip' := 57) (loc' := [some (.ref 46), none, some (.int x2), some (.int x3), some (.int (I1 46 4)), some (.int v2), none]) (st' := [(.int v2), (.int x3)]) (I1 := I2) (T1 := T2) rfl ?_
            refine ev_callI rfl rfl rfl (fun v3 I3 T3 hq => ?_) (fun x I1 T1 hq => ?_) hq
            · refine ev_br (p := v3 = 0) (a := 63) (b := 59) (st' := []) inferInstance rfl rfl (fun hb => ?_) (fun hb => ?_)
              · have hq := hq.1 hb
                refine ev_fg [true, true, true, true, false, true, true] (loc' := [some (.ref 46), none, some (.int x2), some (.int x3), none, some (.int v2), none]) rfl ?_
                exact s_M_book_63 (T := T3) hq
              · have hq := hq.2 hb
                refine ev_seq 3 (ip' := 62) (loc' := [some (.ref 46), none, some (.int x2), some (.int x3), some (.int (I1 46 4)), some (.int v2), none]) (st' := [(.int (I1 46 4)), (.int 2), (.ref 46)]) (I1 := I3) (T1 := T3) rfl ?_
                refine ev_callV rfl rfl rfl (fun I4 T4 hq => ?_) (fun x I1 T1 hq => ?_) hq
                · refine ev_fg [true, true, true, true, false, true, true] (loc' := [some (.ref 46), none, some (.int x2), some (.int x3), none, some (.int v2), none]) rfl ?_
                  exact s_M_book_63 (T := T4) hq
                · exact ⟨by decide, hq⟩
            · exact hq.elim
          · have hq := hq.2 hb
            refine ev_fg [true, true, true, true, false, true, true] (loc' := [some (.ref 46), none, some (.int x2), some (.int x3), none, some (.int v2), none]) rfl ?_
            exact s_M_book_63 (T := T2) hq
        · exact ⟨by decide, hq⟩
      · exact ⟨by decide, hq⟩
  · have hq := hq.2 hb
    refine ev_fg [true, true, true, false, true, true, true] (loc' := [some (.ref 46), none, some (.int x2), none, none, none, none]) rfl ?_
    exact s_M_book_98 (T := T) hq
def t_M_book_16 (E : MEnv) (I : II) (T : TT) (Q : QQ) (x1 : Int32) (y1 : Int32) : Prop := ev E 58 0 [some (.ref 46), some (.int y1), some (.int 1), some (.int 1)] [] I T (KI (fun v1 I1 T1 => (v1 = 0 → (ev E 59 0 [some (.ref 46), some (.int x1)] [] I1 T1 (KV (fun I2 T2 => t_M_book_29 E I2 T2 Q 0 0) (fun x I1 T1 => Q (.inr x) I1 T1)))) ∧ (¬ (v1 = 0) → (Q (.inl (some (.int 0))) I1 T1))) (fun x I1 T1 => Q (.inr x) I1 T1))
theorem s_M_book_16 {E : MEnv} {I : II} {T : TT} {Q : QQ} {x1 : Int32} {y1 : Int32} (hq : t_M_book_16 E I T Q x1 y1) : ev E 173 16 [some (.ref 46), some (.int x1), none, none, none, none, none] [(.int y1), (.ref 46)] I T Q := by
  unfold t_M_book_16 at hq
  refine ev_seq 2 (ip' := 18) (loc' := [some (.ref 46), some (.int x1), none, none, none, none, none]) (st' := [(.int 1), (.int 1), (.int y1), (.ref 46)]) (I1 := I) (T1 := T) rfl ?_
  refine ev_callI rfl rfl rfl (fun v1 I1 T1 hq => ?_) (fun x I1 T1 hq => ?_) hq
  · refine ev_br (p := v1 = 0) (a := 22) (b := 20) (st' := []) inferInstance rfl rfl (fun hb => ?_) (fun hb => ?_)
    · have hq := hq.1 hb
      refine ev_seq 2 (ip' := 24) (loc' := [some (.ref 46), some (.int x1), none, none, none, none, none]) (st' := [(.int x1), (.ref 46)]) (I1 := I1) (T1 := T1) rfl ?_
      refine ev_callV rfl rfl rfl (fun I2 T2 hq => ?_) (fun x I1 T1 hq => ?_) hq
      · refine ev_seq 4 (ip' := 29) (loc' := [some (.ref 46), some (.int x1), some (.int 0), some (.int 0), none, none, none]) (st' := []) (I1 := I2) (T1 := T2) rfl ?_
        refine ev_fg [true, false, true, true, true, true, true] (loc' := [some (.ref 46), none, some (.int 0), some (.int 0), none, none, none]) rfl ?_
        exact s_M_book_29 (T := T2) hq
      · exact ⟨by decide, hq⟩
    · have hq := hq.2 hb
      refine ev_seq 1 (ip' := 21) (loc' := [some (.ref 46), some (.int x1), none, none, none, none, none]) (st' := [(.int 0)]) (I1 := I1) (T1 := T1) rfl ?_
      exact ev_ret rfl rfl hq
  · exact ⟨by decide, hq⟩
def t_M_book_13 (E : MEnv) (I : II) (T : TT) (Q : QQ) (x1 : Int32) : Prop := t_M_book_16 E I T Q x1 1
theorem s_M_book_13 {E : MEnv} {I : II} {T : TT} {Q : QQ} {x1 : Int32} (hq : t_M_book_13 E I T Q x1) : ev E 173 13 [some (.ref 46), some (.int x1), none, none, none, none, none] [(.ref 46)] I T Q := by
  unfold t_M_book_13 at hq
  refine ev_seq 2 (ip' := 16) (loc' := [some (.ref 46), some (.int x1), none, none, none, none, none]) (st' := [(.int 1), (.ref 46)]) (I1 := I) (T1 := T) rfl ?_
  exact s_M_book_16 (T := T) hq
def t_M_book_0 (E : MEnv) (I : II) (T : TT) (Q : QQ) (x1 : Int32) : Prop := ev E 57 0 [some (.int x1), some (.int 0), some (.int ((m_up I 46 0 0) 46 1))] [] (m_up I 46 0 0) T (KI (fun v1 I1 T1 => (v1 = 0 → (t_M_book_13 E I1 T1 Q x1)) ∧ (¬ (v1 = 0) → ((x1 ≤ 60 → (t_M_book_16 E I1 T1 Q x1 0)) ∧ (¬ (x1 ≤ 60) → (t_M_book_13 E I1 T1 Q x1))))) (fun _ _ _ => False))
theorem s_M_book_0 {E : MEnv} {I : II} {T : TT} {Q : QQ} {x1 : Int32} (hq : t_M_book_0 E I T Q x1) : ev E 173 0 [some (.ref 46), some (.int x1), none, none, none, none, none] [] I T Q := by
  unfold t_M_book_0 at hq
  refine ev_seq 8 (ip' := 8) (loc' := [some (.ref 46), some (.int x1), none, none, none, none, none]) (st' := [(.int ((m_up I 46 0 0) 46 1)), (.int 0), (.int x1), (.ref 46)]) (I1 := m_up I 46 0 0) (T1 := T) rfl ?_
  refine ev_callI rfl rfl rfl (fun v1 I1 T1 hq => ?_) (fun x I1 T1 hq => ?_) hq
  · refine ev_br (p := v1 = 0) (a := 13) (b := 10) (st' := [(.ref 46)]) inferInstance rfl rfl (fun hb => ?_) (fun hb => ?_)
    · have hq := hq.1 hb
      exact s_M_book_13 (T := T1) hq
    · have hq := hq.2 hb
      refine ev_seq 2 (ip' := 12) (loc' := [some (.ref 46), some (.int x1), none, none, none, none, none]) (st' := [(.int 60), (.int x1), (.ref 46)]) (I1 := I1) (T1 := T1) rfl ?_
      refine ev_br (p := x1 ≤ 60) (a := 15) (b := 13) (st' := [(.ref 46)]) inferInstance rfl rfl (fun hb => ?_) (fun hb => ?_)
      · have hq := hq.1 hb
        refine ev_seq 1 (ip' := 16) (loc' := [some (.ref 46), some (.int x1), none, none, none, none, none]) (st' := [(.int 0), (.ref 46)]) (I1 := I1) (T1 := T1) rfl ?_
        exact s_M_book_16 (T := T1) hq
      · have hq := hq.2 hb
        exact s_M_book_13 (T := T1) hq
  · exact hq.elim
/-- FeltHarnessModel.by(III)I -/
def t_M_by_0 (E : MEnv) (I : II) (T : TT) (Q : QQ) (x0 : Int32) (x1 : Int32) (x2 : Int32) : Prop := ev E 161 (m_tsw 2 7 [2, 6, 10, 14, 28, 39] 43 x0) [some (.int x0), some (.int x1), some (.int x2)] [] I T Q
theorem s_M_by_0 {E : MEnv} {I : II} {T : TT} {Q : QQ} {x0 : Int32} {x1 : Int32} {x2 : Int32} (hq : t_M_by_0 E I T Q x0 x1 x2) : ev E 161 0 [some (.int x0), some (.int x1), some (.int x2)] [] I T Q := by
  unfold t_M_by_0 at hq
  refine ev_seq 1 (ip' := 1) (loc' := [some (.int x0), some (.int x1), some (.int x2)]) (st' := [(.int x0)]) (I1 := I) (T1 := T) rfl ?_
  refine ev_jp rfl rfl ?_
  exact hq
def t_M_by_2 (E : MEnv) (I : II) (T : TT) (Q : QQ) (x1 : Int32) (x2 : Int32) : Prop := Q (.inl (some (.int (x1 + x2)))) I T
theorem s_M_by_2 {E : MEnv} {I : II} {T : TT} {Q : QQ} {x1 : Int32} {x2 : Int32} (hq : t_M_by_2 E I T Q x1 x2) : ev E 161 2 [none, some (.int x1), some (.int x2)] [] I T Q := by
  unfold t_M_by_2 at hq
  refine ev_seq 3 (ip' := 5) (loc' := [none, some (.int x1), some (.int x2)]) (st' := [(.int (x1 + x2))]) (I1 := I) (T1 := T) rfl ?_
  exact ev_ret rfl rfl hq
def t_M_by_6 (E : MEnv) (I : II) (T : TT) (Q : QQ) (x1 : Int32) (x2 : Int32) : Prop := Q (.inl (some (.int (x1 - x2)))) I T
theorem s_M_by_6 {E : MEnv} {I : II} {T : TT} {Q : QQ} {x1 : Int32} {x2 : Int32} (hq : t_M_by_6 E I T Q x1 x2) : ev E 161 6 [none, some (.int x1), some (.int x2)] [] I T Q := by
  unfold t_M_by_6 at hq
  refine ev_seq 3 (ip' := 9) (loc' := [none, some (.int x1), some (.int x2)]) (st' := [(.int (x1 - x2))]) (I1 := I) (T1 := T) rfl ?_
  exact ev_ret rfl rfl hq
def t_M_by_10 (E : MEnv) (I : II) (T : TT) (Q : QQ) (x1 : Int32) (x2 : Int32) : Prop := Q (.inl (some (.int (x1 * x2)))) I T
theorem s_M_by_10 {E : MEnv} {I : II} {T : TT} {Q : QQ} {x1 : Int32} {x2 : Int32} (hq : t_M_by_10 E I T Q x1 x2) : ev E 161 10 [none, some (.int x1), some (.int x2)] [] I T Q := by
  unfold t_M_by_10 at hq
  refine ev_seq 3 (ip' := 13) (loc' := [none, some (.int x1), some (.int x2)]) (st' := [(.int (x1 * x2))]) (I1 := I) (T1 := T) rfl ?_
  exact ev_ret rfl rfl hq
def t_M_by_27 (E : MEnv) (I : II) (T : TT) (Q : QQ) (y0 : Int32) : Prop := Q (.inl (some (.int y0))) I T
theorem s_M_by_27 {E : MEnv} {I : II} {T : TT} {Q : QQ} {y0 : Int32} (hq : t_M_by_27 E I T Q y0) : ev E 161 27 [none, none, none] [(.int y0)] I T Q := by
  unfold t_M_by_27 at hq
  exact ev_ret rfl rfl hq
def t_M_by_14 (E : MEnv) (I : II) (T : TT) (Q : QQ) (x1 : Int32) (x2 : Int32) : Prop := (x2 = 0 → (t_M_by_27 E I T Q 0)) ∧ (¬ (x2 = 0) → ((x2 = (-1) → (t_M_by_27 E I T Q (0 - x1))) ∧ (¬ (x2 = (-1)) → (x2 ≠ 0 ∧ (t_M_by_27 E I T Q (x1 / x2))))))
theorem s_M_by_14 {E : MEnv} {I : II} {T : TT} {Q : QQ} {x1 : Int32} {x2 : Int32} (hq : t_M_by_14 E I T Q x1 x2) : ev E 161 14 [none, some (.int x1), some (.int x2)] [] I T Q := by
  unfold t_M_by_14 at hq
  refine ev_seq 1 (ip' := 15) (loc' := [none, some (.int x1), some (.int x2)]) (st' := [(.int x2)]) (I1 := I) (T1 := T) rfl ?_
  refine ev_br (p := x2 = 0) (a := 16) (b := 18) (st' := []) inferInstance rfl rfl (fun hb => ?_) (fun hb => ?_)
  · have hq := hq.1 hb
    refine ev_seq 2 (ip' := 27) (loc' := [none, some (.int x1), some (.int x2)]) (st' := [(.int 0)]) (I1 := I) (T1 := T) rfl ?_
    refine ev_fg [true, false, false] (loc' := [none, none, none]) rfl ?_
    exact s_M_by_27 (T := T) hq
  · have hq := hq.2 hb
    refine ev_seq 2 (ip' := 20) (loc' := [none, some (.int x1), some (.int x2)]) (st' := [(.int (-1)), (.int x2)]) (I1 := I) (T1 := T) rfl ?_
    refine ev_br (p := x2 = (-1)) (a := 21) (b := 24) (st' := []) inferInstance rfl rfl (fun hb => ?_) (fun hb => ?_)
    · have hq := hq.1 hb
      refine ev_seq 3 (ip' := 27) (loc' := [none, some (.int x1), some (.int x2)]) (st' := [(.int (0 - x1))]) (I1 := I) (T1 := T) rfl ?_
      refine ev_fg [true, false, false] (loc' := [none, none, none]) rfl ?_
      exact s_M_by_27 (T := T) hq
    · have hq := hq.2 hb
      refine ev_seq 2 (ip' := 26) (loc' := [none, some (.int x1), some (.int x2)]) (st' := [(.int x2), (.int x1)]) (I1 := I) (T1 := T) rfl ?_
      obtain ⟨hg, hq⟩ := hq
      refine ev_pr rfl (ev_idiv hg) ?_
      refine ev_fg [true, false, false] (loc' := [none, none, none]) rfl ?_
      exact s_M_by_27 (T := T) hq
def t_M_by_38 (E : MEnv) (I : II) (T : TT) (Q : QQ) (y0 : Int32) : Prop := Q (.inl (some (.int y0))) I T
theorem s_M_by_38 {E : MEnv} {I : II} {T : TT} {Q : QQ} {y0 : Int32} (hq : t_M_by_38 E I T Q y0) : ev E 161 38 [none, none, none] [(.int y0)] I T Q := by
  unfold t_M_by_38 at hq
  exact ev_ret rfl rfl hq
def t_M_by_33 (E : MEnv) (I : II) (T : TT) (Q : QQ) : Prop := t_M_by_38 E I T Q 0
theorem s_M_by_33 {E : MEnv} {I : II} {T : TT} {Q : QQ} (hq : t_M_by_33 E I T Q) : ev E 161 33 [none, none, none] [] I T Q := by
  unfold t_M_by_33 at hq
  refine ev_seq 2 (ip' := 38) (loc' := [none, none, none]) (st' := [(.int 0)]) (I1 := I) (T1 := T) rfl ?_
  exact s_M_by_38 (T := T) hq
def t_M_by_28 (E : MEnv) (I : II) (T : TT) (Q : QQ) (x1 : Int32) (x2 : Int32) : Prop := (x2 = 0 → (t_M_by_33 E I T Q )) ∧ (¬ (x2 = 0) → ((x2 = (-1) → (t_M_by_33 E I T Q )) ∧ (¬ (x2 = (-1)) → (x2 ≠ 0 ∧ (t_M_by_38 E I T Q (x1 - x1 / x2 * x2))))))
theorem s_M_by_28 {E : MEnv} {I : II} {T : TT} {Q : QQ} {x1 : Int32} {x2 : Int32} (hq : t_M_by_28 E I T Q x1 x2) : ev E 161 28 [none, some (.int x1), some (.int x2)] [] I T Q := by
  unfold t_M_by_28 at hq
  refine ev_seq 1 (ip' := 29) (loc' := [none, some (.int x1), some (.int x2)]) (st' := [(.int x2)]) (I1 := I) (T1 := T) rfl ?_
  refine ev_br (p := x2 = 0) (a := 33) (b := 30) (st' := []) inferInstance rfl rfl (fun hb => ?_) (fun hb => ?_)
  · have hq := hq.1 hb
    refine ev_fg [true, false, false] (loc' := [none, none, none]) rfl ?_
    exact s_M_by_33 (T := T) hq
  · have hq := hq.2 hb
    refine ev_seq 2 (ip' := 32) (loc' := [none, some (.int x1), some (.int x2)]) (st' := [(.int (-1)), (.int x2)]) (I1 := I) (T1 := T) rfl ?_
    refine ev_br (p := x2 = (-1)) (a := 33) (b := 35) (st' := []) inferInstance rfl rfl (fun hb => ?_) (fun hb => ?_)
    · have hq := hq.1 hb
      refine ev_fg [true, false, false] (loc' := [none, none, none]) rfl ?_
      exact s_M_by_33 (T := T) hq
    · have hq := hq.2 hb
      refine ev_seq 2 (ip' := 37) (loc' := [none, some (.int x1), some (.int x2)]) (st' := [(.int x2), (.int x1)]) (I1 := I) (T1 := T) rfl ?_
      obtain ⟨hg, hq⟩ := hq
      refine ev_pr rfl (ev_irem hg) ?_
      refine ev_fg [true, false, false] (loc' := [none, none, none]) rfl ?_
      exact s_M_by_38 (T := T) hq
def t_M_by_39 (E : MEnv) (I : II) (T : TT) (Q : QQ) (x1 : Int32) (x2 : Int32) : Prop := ev E 162 0 [some (.int x1), some (.int x2)] [] I T (KI (fun v1 I1 T1 => Q (.inl (some (.int v1))) I1 T1) (fun _ _ _ => False))
theorem s_M_by_39 {E : MEnv} {I : II} {T : TT} {Q : QQ} {x1 : Int32} {x2 : Int32} (hq : t_M_by_39 E I T Q x1 x2) : ev E 161 39 [none, some (.int x1), some (.int x2)] [] I T Q := by
  unfold t_M_by_39 at hq
  refine ev_seq 2 (ip' := 41) (loc' := [none, some (.int x1), some (.int x2)]) (st' := [(.int x2), (.int x1)]) (I1 := I) (T1 := T) rfl ?_
  refine ev_callI rfl rfl rfl (fun v1 I1 T1 hq => ?_) (fun x I1 T1 hq => ?_) hq
  · exact ev_ret rfl rfl hq
  · exact hq.elim
def t_M_by_43 (E : MEnv) (I : II) (T : TT) (Q : QQ) (x1 : Int32) (x2 : Int32) : Prop := ev E 163 0 [some (.int x1), some (.int x2)] [] I T (KI (fun v1 I1 T1 => Q (.inl (some (.int v1))) I1 T1) (fun _ _ _ => False))
theorem s_M_by_43 {E : MEnv} {I : II} {T : TT} {Q : QQ} {x1 : Int32} {x2 : Int32} (hq : t_M_by_43 E I T Q x1 x2) : ev E 161 43 [none, some (.int x1), some (.int x2)] [] I T Q := by
  unfold t_M_by_43 at hq
  refine ev_seq 2 (ip' := 45) (loc' := [none, some (.int x1), some (.int x2)]) (st' := [(.int x2), (.int x1)]) (I1 := I) (T1 := T) rfl ?_
  refine ev_callI rfl rfl rfl (fun v1 I1 T1 hq => ?_) (fun x I1 T1 hq => ?_) hq
  · exact ev_ret rfl rfl hq
  · exact hq.elim
/-- FeltHarnessModel.byLaw()I -/
def t_M_byLaw_89 (E : MEnv) (I : II) (T : TT) (Q : QQ) (x1 : Int32) (x2 : Int32) : Prop := ev E 160 24 [some (.ref 46), some (.int x1), some (.int (x2 + 1))] [] I T Q
theorem s_M_byLaw_89 {E : MEnv} {I : II} {T : TT} {Q : QQ} {x1 : Int32} {x2 : Int32} (hq : t_M_byLaw_89 E I T Q x1 x2) : ev E 160 89 [some (.ref 46), some (.int x1), some (.int x2)] [] I T Q := by
  unfold t_M_byLaw_89 at hq
  refine ev_seq 2 (ip' := 24) (loc' := [some (.ref 46), some (.int x1), some (.int (x2 + 1))]) (st' := []) (I1 := I) (T1 := T) rfl ?_
  exact hq
def t_M_byLaw_62 (E : MEnv) (I : II) (T : TT) (Q : QQ) (x1 : Int32) (x2 : Int32) (y1 : Int32) (y2 : Int32) : Prop := (¬ y1 < 0 ∧ y1.toNatClampNeg < 160) ∧ (t_M_byLaw_89 E (m_up I 425 y1.toNatClampNeg y2) T Q (x1 + 1) x2)
theorem s_M_byLaw_62 {E : MEnv} {I : II} {T : TT} {Q : QQ} {x1 : Int32} {x2 : Int32} {y1 : Int32} {y2 : Int32} (hq : t_M_byLaw_62 E I T Q x1 x2 y1 y2) : ev E 160 62 [some (.ref 46), some (.int x1), some (.int x2)] [(.int y2), (.int y1), (.ref 425)] I T Q := by
  unfold t_M_byLaw_62 at hq
  obtain ⟨hg, hq⟩ := hq
  refine ev_iast rfl rfl hg ?_
  refine ev_seq 2 (ip' := 89) (loc' := [some (.ref 46), some (.int (x1 + 1)), some (.int x2)]) (st' := []) (I1 := m_up I 425 y1.toNatClampNeg y2) (T1 := T) rfl ?_
  exact s_M_byLaw_89 (T := T) hq
def t_M_byLaw_24 (E : MEnv) (I : II) (T : TT) (Q : QQ) (x1 : Int32) (x2 : Int32) : Prop := ((I 46 19) ≤ x2 → (ev E 163 0 [some (.int 0), some (.int (I 425 0))] [] I T (KI (fun v1 I1 T1 => ev E 162 0 [some (.int 60), some (.int v1)] [] I1 T1 (KI (fun v2 I2 T2 => Q (.inl (some (.int v2))) I2 T2) (fun _ _ _ => False))) (fun _ _ _ => False)))) ∧ (¬ ((I 46 19) ≤ x2) → ((¬ x2 < 0 ∧ x2.toNatClampNeg < 160) ∧ ((2 ≤ (I (86 + x2.toNatClampNeg) 0) → ((¬ x2 < 0 ∧ x2.toNatClampNeg < 160) ∧ ((¬ ((x1 + (-1)) - 1) < 0 ∧ ((x1 + (-1)) - 1).toNatClampNeg < 160) ∧ ((¬ (x1 + (-1)) < 0 ∧ (x1 + (-1)).toNatClampNeg < 160) ∧ (ev E 161 0 [some (.int (I (86 + x2.toNatClampNeg) 0)), some (.int (I 425 ((x1 + (-1)) - 1).toNatClampNeg)), some (.int (I 425 (x1 + (-1)).toNatClampNeg))] [] I T (KI (fun v5 I5 T5 => (¬ ((x1 + (-1)) - 1) < 0 ∧ ((x1 + (-1)) - 1).toNatClampNeg < 160) ∧ (t_M_byLaw_89 E (m_up I5 425 ((x1 + (-1)) - 1).toNatClampNeg v5) T5 Q (x1 + (-1)) x2)) (fun _ _ _ => False))))))) ∧ (¬ (2 ≤ (I (86 + x2.toNatClampNeg) 0)) → ((¬ x2 < 0 ∧ x2.toNatClampNeg < 160) ∧ (((I (86 + x2.toNatClampNeg) 0) = 0 → ((¬ x2 < 0 ∧ x2.toNatClampNeg < 160) ∧ (t_M_byLaw_62 E I T Q x1 x2 x1 (I (86 + x2.toNatClampNeg) 1)))) ∧ (¬ ((I (86 + x2.toNatClampNeg) 0) = 0) → ((¬ x2 < 0 ∧ x2.toNatClampNeg < 160) ∧ ((¬ (I (86 + x2.toNatClampNeg) 1) < 0 ∧ (I (86 + x2.toNatClampNeg) 1).toNatClampNeg < 8) ∧ (t_M_byLaw_62 E I T Q x1 x2 x1 (I 426 (I (86 + x2.toNatClampNeg) 1).toNatClampNeg)))))))))))
theorem s_M_byLaw_24 {E : MEnv} {I : II} {T : TT} {Q : QQ} {x1 : Int32} {x2 : Int32} (hq : t_M_byLaw_24 E I T Q x1 x2) : ev E 160 24 [some (.ref 46), some (.int x1), some (.int x2)] [] I T Q := by
  unfold t_M_byLaw_24 at hq
  refine ev_seq 3 (ip' := 27) (loc' := [some (.ref 46), some (.int x1), some (.int x2)]) (st' := [(.int (I 46 19)), (.int x2)]) (I1 := I) (T1 := T) rfl ?_
  refine ev_br (p := (I 46 19) ≤ x2) (a := 91) (b := 28) (st' := []) inferInstance rfl rfl (fun hb => ?_) (fun hb => ?_)
  · have hq := hq.1 hb
    refine ev_seq 6 (ip' := 97) (loc' := [some (.ref 46), some (.int x1), some (.int x2)]) (st' := [(.int (I 425 0)), (.int 0), (.int 60)]) (I1 := I) (T1 := T) rfl ?_
    refine ev_callI rfl rfl rfl (fun v1 I1 T1 hq => ?_) (fun x I1 T1 hq => ?_) hq
    · refine ev_callI rfl rfl rfl (fun v2 I2 T2 hq => ?_) (fun x I1 T1 hq => ?_) hq
      · exact ev_ret rfl rfl hq
      · exact hq.elim
    · exact hq.elim
  · have hq := hq.2 hb
    refine ev_seq 3 (ip' := 31) (loc' := [some (.ref 46), some (.int x1), some (.int x2)]) (st' := [(.int x2), (.ref 85)]) (I1 := I) (T1 := T) rfl ?_
    obtain ⟨hg, hq⟩ := hq
    have hr3 := hg
    refine ev_aald rfl rfl hg (RF_85 hg.2) ?_
    refine ev_seq 1 (ip' := 33) (loc' := [some (.ref 46), some (.int x1), some (.int x2)]) (st' := [(.int 0), (.ref (86 + x2.toNatClampNeg))]) (I1 := I) (T1 := T) rfl ?_
    refine ev_iald rfl (KF_85 hr3.2) ⟨by decide, by decide⟩ ?_
    refine ev_seq 1 (ip' := 35) (loc' := [some (.ref 46), some (.int x1), some (.int x2)]) (st' := [(.int 2), (.int (I (86 + x2.toNatClampNeg) 0))]) (I1 := I) (T1 := T) rfl ?_
    refine ev_br (p := 2 ≤ (I (86 + x2.toNatClampNeg) 0)) (a := 65) (b := 36) (st' := []) inferInstance rfl rfl (fun hb => ?_) (fun hb => ?_)
    · have hq := hq.1 hb
      refine ev_seq 9 (ip' := 74) (loc' := [some (.ref 46), some (.int (x1 + (-1))), some (.int x2)]) (st' := [(.int x2), (.ref 85), (.int ((x1 + (-1)) - 1)), (.ref 425)]) (I1 := I) (T1 := T) rfl ?_
      obtain ⟨hg, hq⟩ := hq
      have hr4 := hg
      refine ev_aald rfl rfl hg (RF_85 hg.2) ?_
      refine ev_seq 1 (ip' := 76) (loc' := [some (.ref 46), some (.int (x1 + (-1))), some (.int x2)]) (st' := [(.int 0), (.ref (86 + x2.toNatClampNeg)), (.int ((x1 + (-1)) - 1)), (.ref 425)]) (I1 := I) (T1 := T) rfl ?_
      refine ev_iald rfl (KF_85 hr4.2) ⟨by decide, by decide⟩ ?_
      refine ev_seq 5 (ip' := 82) (loc' := [some (.ref 46), some (.int (x1 + (-1))), some (.int x2)]) (st' := [(.int ((x1 + (-1)) - 1)), (.ref 425), (.int (I (86 + x2.toNatClampNeg) 0)), (.int ((x1 + (-1)) - 1)), (.ref 425)]) (I1 := I) (T1 := T) rfl ?_
      obtain ⟨hg, hq⟩ := hq
      refine ev_iald rfl rfl hg ?_
      refine ev_seq 3 (ip' := 86) (loc' := [some (.ref 46), some (.int (x1 + (-1))), some (.int x2)]) (st' := [(.int (x1 + (-1))), (.ref 425), (.int (I 425 ((x1 + (-1)) - 1).toNatClampNeg)), (.int (I (86 + x2.toNatClampNeg) 0)), (.int ((x1 + (-1)) - 1)), (.ref 425)]) (I1 := I) (T1 := T) rfl ?_
      obtain ⟨hg, hq⟩ := hq
      refine ev_iald rfl rfl hg ?_
      refine ev_callI rfl rfl rfl (fun v5 I5 T5 hq => ?_) (fun x I1 T1 hq => ?_) hq
      · obtain ⟨hg, hq⟩ := hq
        refine ev_iast rfl rfl hg ?_
        exact s_M_byLaw_89 (T := T5) hq
      · exact hq.elim
    · have hq := hq.2 hb
      refine ev_seq 6 (ip' := 42) (loc' := [some (.ref 46), some (.int x1), some (.int x2)]) (st' := [(.int x2), (.ref 85), (.int x1), (.ref 425)]) (I1 := I) (T1 := T) rfl ?_
      obtain ⟨hg, hq⟩ := hq
      have hr6 := hg
      refine ev_aald rfl rfl hg (RF_85 hg.2) ?_
      refine ev_seq 1 (ip' := 44) (loc' := [some (.ref 46), some (.int x1), some (.int x2)]) (st' := [(.int 0), (.ref (86 + x2.toNatClampNeg)), (.int x1), (.ref 425)]) (I1 := I) (T1 := T) rfl ?_
      refine ev_iald rfl (KF_85 hr6.2) ⟨by decide, by decide⟩ ?_
      refine ev_br (p := (I (86 + x2.toNatClampNeg) 0) = 0) (a := 46) (b := 53) (st' := [(.int x1), (.ref 425)]) inferInstance rfl rfl (fun hb => ?_) (fun hb => ?_)
      · have hq := hq.1 hb
        refine ev_seq 3 (ip' := 49) (loc' := [some (.ref 46), some (.int x1), some (.int x2)]) (st' := [(.int x2), (.ref 85), (.int x1), (.ref 425)]) (I1 := I) (T1 := T) rfl ?_
        obtain ⟨hg, hq⟩ := hq
        have hr7 := hg
        refine ev_aald rfl rfl hg (RF_85 hg.2) ?_
        refine ev_seq 1 (ip' := 51) (loc' := [some (.ref 46), some (.int x1), some (.int x2)]) (st' := [(.int 1), (.ref (86 + x2.toNatClampNeg)), (.int x1), (.ref 425)]) (I1 := I) (T1 := T) rfl ?_
        refine ev_iald rfl (KF_85 hr7.2) ⟨by decide, by decide⟩ ?_
        refine ev_seq 1 (ip' := 62) (loc' := [some (.ref 46), some (.int x1), some (.int x2)]) (st' := [(.int (I (86 + x2.toNatClampNeg) 1)), (.int x1), (.ref 425)]) (I1 := I) (T1 := T) rfl ?_
        exact s_M_byLaw_62 (T := T) hq
      · have hq := hq.2 hb
        refine ev_seq 5 (ip' := 58) (loc' := [some (.ref 46), some (.int x1), some (.int x2)]) (st' := [(.int x2), (.ref 85), (.ref 426), (.int x1), (.ref 425)]) (I1 := I) (T1 := T) rfl ?_
        obtain ⟨hg, hq⟩ := hq
        have hr8 := hg
        refine ev_aald rfl rfl hg (RF_85 hg.2) ?_
        refine ev_seq 1 (ip' := 60) (loc' := [some (.ref 46), some (.int x1), some (.int x2)]) (st' := [(.int 1), (.ref (86 + x2.toNatClampNeg)), (.ref 426), (.int x1), (.ref 425)]) (I1 := I) (T1 := T) rfl ?_
        refine ev_iald rfl (KF_85 hr8.2) ⟨by decide, by decide⟩ ?_
        obtain ⟨hg, hq⟩ := hq
        refine ev_iald rfl rfl hg ?_
        exact s_M_byLaw_62 (T := T) hq
def t_M_byLaw_0 (E : MEnv) (I : II) (T : TT) (Q : QQ) : Prop := t_M_byLaw_24 E (m_up I 425 0 (((I 426 0) + (I 426 2)) - ((I 426 3) / 4))) T Q 0 0
theorem s_M_byLaw_0 {E : MEnv} {I : II} {T : TT} {Q : QQ} (hq : t_M_byLaw_0 E I T Q) : ev E 160 0 [some (.ref 46), none, none] [] I T Q := by
  unfold t_M_byLaw_0 at hq
  refine ev_seq 24 (ip' := 24) (loc' := [some (.ref 46), some (.int 0), some (.int 0)]) (st' := []) (I1 := m_up I 425 0 (((I 426 0) + (I 426 2)) - ((I 426 3) / 4))) (T1 := T) rfl ?_
  exact s_M_byLaw_24 (T := T) hq
/-- FeltHarnessModel.byteAt(I)I -/
def t_M_byteAt_10 (E : MEnv) (I : II) (T : TT) (Q : QQ) (y0 : Int32) : Prop := Q (.inl (some (.int y0))) I T
theorem s_M_byteAt_10 {E : MEnv} {I : II} {T : TT} {Q : QQ} {y0 : Int32} (hq : t_M_byteAt_10 E I T Q y0) : ev E 61 10 [none, none] [(.int y0)] I T Q := by
  unfold t_M_byteAt_10 at hq
  exact ev_ret rfl rfl hq
def t_M_byteAt_0 (E : MEnv) (I : II) (T : TT) (Q : QQ) (x1 : Int32) : Prop := (x1 < (I 46 2) → ((¬ x1 < 0 ∧ x1.toNatClampNeg < 600) ∧ (t_M_byteAt_10 E I T Q (I 47 x1.toNatClampNeg)))) ∧ (¬ (x1 < (I 46 2)) → (t_M_byteAt_10 E I T Q (-1)))
theorem s_M_byteAt_0 {E : MEnv} {I : II} {T : TT} {Q : QQ} {x1 : Int32} (hq : t_M_byteAt_0 E I T Q x1) : ev E 61 0 [some (.ref 46), some (.int x1)] [] I T Q := by
  unfold t_M_byteAt_0 at hq
  refine ev_seq 3 (ip' := 3) (loc' := [some (.ref 46), some (.int x1)]) (st' := [(.int (I 46 2)), (.int x1)]) (I1 := I) (T1 := T) rfl ?_
  refine ev_br (p := x1 < (I 46 2)) (a := 6) (b := 4) (st' := []) inferInstance rfl rfl (fun hb => ?_) (fun hb => ?_)
  · have hq := hq.1 hb
    refine ev_seq 3 (ip' := 9) (loc' := [some (.ref 46), some (.int x1)]) (st' := [(.int x1), (.ref 47)]) (I1 := I) (T1 := T) rfl ?_
    obtain ⟨hg, hq⟩ := hq
    refine ev_iald rfl rfl hg ?_
    refine ev_fg [false, false] (loc' := [none, none]) rfl ?_
    exact s_M_byteAt_10 (T := T) hq
  · have hq := hq.2 hb
    refine ev_seq 2 (ip' := 10) (loc' := [some (.ref 46), some (.int x1)]) (st' := [(.int (-1))]) (I1 := I) (T1 := T) rfl ?_
    refine ev_fg [false, false] (loc' := [none, none]) rfl ?_
    exact s_M_byteAt_10 (T := T) hq
/-- FeltHarnessModel.canBePut([III)Z -/
def t_M_canBePut_508_25 (E : MEnv) (I : II) (T : TT) (Q : QQ) (y0 : Int32) : Prop := (y0 = 0 ∨ y0 = 1) ∧ Q (.inl (some (.int y0))) I T
theorem s_M_canBePut_508_25 {E : MEnv} {I : II} {T : TT} {Q : QQ} {y0 : Int32} (hq : t_M_canBePut_508_25 E I T Q y0) : ev E 150 25 [none, none, none, none] [(.int y0)] I T Q := by
  unfold t_M_canBePut_508_25 at hq
  exact ev_retb rfl rfl hq.1 hq.2
def t_M_canBePut_508_24 (E : MEnv) (I : II) (T : TT) (Q : QQ) : Prop := t_M_canBePut_508_25 E I T Q 0
theorem s_M_canBePut_508_24 {E : MEnv} {I : II} {T : TT} {Q : QQ} (hq : t_M_canBePut_508_24 E I T Q) : ev E 150 24 [none, none, none, none] [] I T Q := by
  unfold t_M_canBePut_508_24 at hq
  refine ev_seq 1 (ip' := 25) (loc' := [none, none, none, none]) (st' := [(.int 0)]) (I1 := I) (T1 := T) rfl ?_
  exact s_M_canBePut_508_25 (T := T) hq
def t_M_canBePut_508_0 (E : MEnv) (I : II) (T : TT) (Q : QQ) (x2 : Int32) (x3 : Int32) : Prop := (¬ (0 + x2) < 0 ∧ (0 + x2).toNatClampNeg < 29) ∧ (((I 508 (0 + x2).toNatClampNeg) = (-1) → (ev E 151 0 [some (.ref 46), some (.ref 508), some (.int x3), none] [] I T (KI (fun v1 I1 T1 => (v1 = (-1) → ((¬ x2 < 0 ∧ x2.toNatClampNeg < 8) ∧ (ev E 152 0 [some (.ref 46), some (.ref 508), none, none] [] I1 T1 (KI (fun v2 I2 T2 => (((I1 84 x2.toNatClampNeg) &&& v2) = 0 → (t_M_canBePut_508_25 E I2 T2 Q 1)) ∧ (¬ (((I1 84 x2.toNatClampNeg) &&& v2) = 0) → (t_M_canBePut_508_24 E I2 T2 Q ))) (fun x I1 T1 => Q (.inr x) I1 T1))))) ∧ (¬ (v1 = (-1)) → (t_M_canBePut_508_24 E I1 T1 Q ))) (fun x I1 T1 => Q (.inr x) I1 T1)))) ∧ (¬ ((I 508 (0 + x2).toNatClampNeg) = (-1)) → (t_M_canBePut_508_24 E I T Q )))
theorem s_M_canBePut_508_0 {E : MEnv} {I : II} {T : TT} {Q : QQ} {x2 : Int32} {x3 : Int32} (hq : t_M_canBePut_508_0 E I T Q x2 x3) : ev E 150 0 [some (.ref 46), some (.ref 508), some (.int x2), some (.int x3)] [] I T Q := by
  unfold t_M_canBePut_508_0 at hq
  refine ev_seq 4 (ip' := 4) (loc' := [some (.ref 46), some (.ref 508), some (.int x2), some (.int x3)]) (st' := [(.int (0 + x2)), (.ref 508)]) (I1 := I) (T1 := T) rfl ?_
  obtain ⟨hg, hq⟩ := hq
  refine ev_iald rfl rfl hg ?_
  refine ev_seq 1 (ip' := 6) (loc' := [some (.ref 46), some (.ref 508), some (.int x2), some (.int x3)]) (st' := [(.int (-1)), (.int (I 508 (0 + x2).toNatClampNeg))]) (I1 := I) (T1 := T) rfl ?_
  refine ev_br (p := (I 508 (0 + x2).toNatClampNeg) = (-1)) (a := 7) (b := 24) (st' := []) inferInstance rfl rfl (fun hb => ?_) (fun hb => ?_)
  · have hq := hq.1 hb
    refine ev_seq 3 (ip' := 10) (loc' := [some (.ref 46), some (.ref 508), some (.int x2), some (.int x3)]) (st' := [(.int x3), (.ref 508), (.ref 46)]) (I1 := I) (T1 := T) rfl ?_
    refine ev_callI rfl rfl rfl (fun v1 I1 T1 hq => ?_) (fun x I1 T1 hq => ?_) hq
    · refine ev_seq 1 (ip' := 12) (loc' := [some (.ref 46), some (.ref 508), some (.int x2), some (.int x3)]) (st' := [(.int (-1)), (.int v1)]) (I1 := I1) (T1 := T1) rfl ?_
      refine ev_br (p := v1 = (-1)) (a := 13) (b := 24) (st' := []) inferInstance rfl rfl (fun hb => ?_) (fun hb => ?_)
      · have hq := hq.1 hb
        refine ev_seq 3 (ip' := 16) (loc' := [some (.ref 46), some (.ref 508), some (.int x2), some (.int x3)]) (st' := [(.int x2), (.ref 84)]) (I1 := I1) (T1 := T1) rfl ?_
        obtain ⟨hg, hq⟩ := hq
        refine ev_iald rfl rfl hg ?_
        refine ev_seq 2 (ip' := 19) (loc' := [some (.ref 46), some (.ref 508), some (.int x2), some (.int x3)]) (st' := [(.ref 508), (.ref 46), (.int (I1 84 x2.toNatClampNeg))]) (I1 := I1) (T1 := T1) rfl ?_
        refine ev_callI rfl rfl rfl (fun v2 I2 T2 hq => ?_) (fun x I1 T1 hq => ?_) hq
        · refine ev_seq 1 (ip' := 21) (loc' := [some (.ref 46), some (.ref 508), some (.int x2), some (.int x3)]) (st' := [(.int ((I1 84 x2.toNatClampNeg) &&& v2))]) (I1 := I2) (T1 := T2) rfl ?_
          refine ev_br (p := ((I1 84 x2.toNatClampNeg) &&& v2) = 0) (a := 22) (b := 24) (st' := []) inferInstance rfl rfl (fun hb => ?_) (fun hb => ?_)
          · have hq := hq.1 hb
            refine ev_seq 2 (ip' := 25) (loc' := [some (.ref 46), some (.ref 508), some (.int x2), some (.int x3)]) (st' := [(.int 1)]) (I1 := I2) (T1 := T2) rfl ?_
            refine ev_fg [false, false, false, false] (loc' := [none, none, none, none]) rfl ?_
            exact s_M_canBePut_508_25 (T := T2) hq
          · have hq := hq.2 hb
            refine ev_fg [false, false, false, false] (loc' := [none, none, none, none]) rfl ?_
            exact s_M_canBePut_508_24 (T := T2) hq
        · exact ⟨by decide, hq⟩
      · have hq := hq.2 hb
        refine ev_fg [false, false, false, false] (loc' := [none, none, none, none]) rfl ?_
        exact s_M_canBePut_508_24 (T := T1) hq
    · exact ⟨by decide, hq⟩
  · have hq := hq.2 hb
    refine ev_fg [false, false, false, false] (loc' := [none, none, none, none]) rfl ?_
    exact s_M_canBePut_508_24 (T := T) hq
/-- FeltHarnessModel.canBePut([III)Z -/
def t_M_canBePut_509_25 (E : MEnv) (I : II) (T : TT) (Q : QQ) (y0 : Int32) : Prop := (y0 = 0 ∨ y0 = 1) ∧ Q (.inl (some (.int y0))) I T
theorem s_M_canBePut_509_25 {E : MEnv} {I : II} {T : TT} {Q : QQ} {y0 : Int32} (hq : t_M_canBePut_509_25 E I T Q y0) : ev E 150 25 [none, none, none, none] [(.int y0)] I T Q := by
  unfold t_M_canBePut_509_25 at hq
  exact ev_retb rfl rfl hq.1 hq.2
def t_M_canBePut_509_24 (E : MEnv) (I : II) (T : TT) (Q : QQ) : Prop := t_M_canBePut_509_25 E I T Q 0
theorem s_M_canBePut_509_24 {E : MEnv} {I : II} {T : TT} {Q : QQ} (hq : t_M_canBePut_509_24 E I T Q) : ev E 150 24 [none, none, none, none] [] I T Q := by
  unfold t_M_canBePut_509_24 at hq
  refine ev_seq 1 (ip' := 25) (loc' := [none, none, none, none]) (st' := [(.int 0)]) (I1 := I) (T1 := T) rfl ?_
  exact s_M_canBePut_509_25 (T := T) hq
def t_M_canBePut_509_0 (E : MEnv) (I : II) (T : TT) (Q : QQ) (x2 : Int32) (x3 : Int32) : Prop := (¬ (0 + x2) < 0 ∧ (0 + x2).toNatClampNeg < 29) ∧ (((I 509 (0 + x2).toNatClampNeg) = (-1) → (ev E 151 0 [some (.ref 46), some (.ref 509), some (.int x3), none] [] I T (KI (fun v1 I1 T1 => (v1 = (-1) → ((¬ x2 < 0 ∧ x2.toNatClampNeg < 8) ∧ (ev E 152 0 [some (.ref 46), some (.ref 509), none, none] [] I1 T1 (KI (fun v2 I2 T2 => (((I1 84 x2.toNatClampNeg) &&& v2) = 0 → (t_M_canBePut_509_25 E I2 T2 Q 1)) ∧ (¬ (((I1 84 x2.toNatClampNeg) &&& v2) = 0) → (t_M_canBePut_509_24 E I2 T2 Q ))) (fun x I1 T1 => Q (.inr x) I1 T1))))) ∧ (¬ (v1 = (-1)) → (t_M_canBePut_509_24 E I1 T1 Q ))) (fun x I1 T1 => Q (.inr x) I1 T1)))) ∧ (¬ ((I 509 (0 + x2).toNatClampNeg) = (-1)) → (t_M_canBePut_509_24 E I T Q )))
theorem s_M_canBePut_509_0 {E : MEnv} {I : II} {T : TT} {Q : QQ} {x2 : Int32} {x3 : Int32} (hq : t_M_canBePut_509_0 E I T Q x2 x3) : ev E 150 0 [some (.ref 46), some (.ref 509), some (.int x2), some (.int x3)] [] I T Q := by
  unfold t_M_canBePut_509_0 at hq
  refine ev_seq 4 (ip' := 4) (loc' := [some (.ref 46), some (.ref 509), some (.int x2), some (.int x3)]) (st' := [(.int (0 + x2)), (.ref 509)]) (I1 := I) (T1 := T) rfl ?_
  obtain ⟨hg, hq⟩ := hq
  refine ev_iald rfl rfl hg ?_
  refine ev_seq 1 (ip' := 6) (loc' := [some (.ref 46), some (.ref 509), some (.int x2), some (.int x3)]) (st' := [(.int (-1)), (.int (I 509 (0 + x2).toNatClampNeg))]) (I1 := I) (T1 := T) rfl ?_
  refine ev_br (p := (I 509 (0 + x2).toNatClampNeg) = (-1)) (a := 7) (b := 24) (st' := []) inferInstance rfl rfl (fun hb => ?_) (fun hb => ?_)
  · have hq := hq.1 hb
    refine ev_seq 3 (ip' := 10) (loc' := [some (.ref 46), some (.ref 509), some (.int x2), some (.int x3)]) (st' := [(.int x3), (.ref 509), (.ref 46)]) (I1 := I) (T1 := T) rfl ?_
    refine ev_callI rfl rfl rfl (fun v1 I1 T1 hq => ?_) (fun x I1 T1 hq => ?_) hq
    · refine ev_seq 1 (ip' := 12) (loc' := [some (.ref 46), some (.ref 509), some (.int x2), some (.int x3)]) (st' := [(.int (-1)), (.int v1)]) (I1 := I1) (T1 := T1) rfl ?_
      refine ev_br (p := v1 = (-1)) (a := 13) (b := 24) (st' := []) inferInstance rfl rfl (fun hb => ?_) (fun hb => ?_)
      · have hq := hq.1 hb
        refine ev_seq 3 (ip' := 16) (loc' := [some (.ref 46), some (.ref 509), some (.int x2), some (.int x3)]) (st' := [(.int x2), (.ref 84)]) (I1 := I1) (T1 := T1) rfl ?_
        obtain ⟨hg, hq⟩ := hq
        refine ev_iald rfl rfl hg ?_
        refine ev_seq 2 (ip' := 19) (loc' := [some (.ref 46), some (.ref 509), some (.int x2), some (.int x3)]) (st' := [(.ref 509), (.ref 46), (.int (I1 84 x2.toNatClampNeg))]) (I1 := I1) (T1 := T1) rfl ?_
        refine ev_callI rfl rfl rfl (fun v2 I2 T2 hq => ?_) (fun x I1 T1 hq => ?_) hq
        · refine ev_seq 1 (ip' := 21) (loc' := [some (.ref 46), some (.ref 509), some (.int x2), some (.int x3)]) (st' := [(.int ((I1 84 x2.toNatClampNeg) &&& v2))]) (I1 := I2) (T1 := T2) rfl ?_
          refine ev_br (p := ((I1 84 x2.toNatClampNeg) &&& v2) = 0) (a := 22) (b := 24) (st' := []) inferInstance rfl rfl (fun hb => ?_) (fun hb => ?_)
          · have hq := hq.1 hb
            refine ev_seq 2 (ip' := 25) (loc' := [some (.ref 46), some (.ref 509), some (.int x2), some (.int x3)]) (st' := [(.int 1)]) (I1 := I2) (T1 := T2) rfl ?_
            refine ev_fg [false, false, false, false] (loc' := [none, none, none, none]) rfl ?_
            exact s_M_canBePut_509_25 (T := T2) hq
          · have hq := hq.2 hb
            refine ev_fg [false, false, false, false] (loc' := [none, none, none, none]) rfl ?_
            exact s_M_canBePut_509_24 (T := T2) hq
        · exact ⟨by decide, hq⟩
      · have hq := hq.2 hb
        refine ev_fg [false, false, false, false] (loc' := [none, none, none, none]) rfl ?_
        exact s_M_canBePut_509_24 (T := T1) hq
    · exact ⟨by decide, hq⟩
  · have hq := hq.2 hb
    refine ev_fg [false, false, false, false] (loc' := [none, none, none, none]) rfl ?_
    exact s_M_canBePut_509_24 (T := T) hq
/-- FeltHarnessModel.canDrive([I)Z -/
def t_M_canDrive_508_15 (E : MEnv) (I : II) (T : TT) (Q : QQ) (y0 : Int32) : Prop := (y0 = 0 ∨ y0 = 1) ∧ Q (.inl (some (.int y0))) I T
theorem s_M_canDrive_508_15 {E : MEnv} {I : II} {T : TT} {Q : QQ} {y0 : Int32} (hq : t_M_canDrive_508_15 E I T Q y0) : ev E 154 15 [none, none] [(.int y0)] I T Q := by
  unfold t_M_canDrive_508_15 at hq
  exact ev_retb rfl rfl hq.1 hq.2
def t_M_canDrive_508_14 (E : MEnv) (I : II) (T : TT) (Q : QQ) : Prop := t_M_canDrive_508_15 E I T Q 0
theorem s_M_canDrive_508_14 {E : MEnv} {I : II} {T : TT} {Q : QQ} (hq : t_M_canDrive_508_14 E I T Q) : ev E 154 14 [none, none] [] I T Q := by
  unfold t_M_canDrive_508_14 at hq
  refine ev_seq 1 (ip' := 15) (loc' := [none, none]) (st' := [(.int 0)]) (I1 := I) (T1 := T) rfl ?_
  exact s_M_canDrive_508_15 (T := T) hq
def t_M_canDrive_508_0 (E : MEnv) (I : II) (T : TT) (Q : QQ) : Prop := ev E 152 0 [some (.ref 46), some (.ref 508), none, none] [] I T (KI (fun v1 I1 T1 => (v1 = 0 → (t_M_canDrive_508_14 E I1 T1 Q )) ∧ (¬ (v1 = 0) → (((I1 50 1) ≤ (I1 508 25) → (t_M_canDrive_508_14 E I1 T1 Q )) ∧ (¬ ((I1 50 1) ≤ (I1 508 25)) → (t_M_canDrive_508_15 E I1 T1 Q 1))))) (fun x I1 T1 => Q (.inr x) I1 T1))
theorem s_M_canDrive_508_0 {E : MEnv} {I : II} {T : TT} {Q : QQ} (hq : t_M_canDrive_508_0 E I T Q) : ev E 154 0 [some (.ref 46), some (.ref 508)] [] I T Q := by
  unfold t_M_canDrive_508_0 at hq
  refine ev_seq 2 (ip' := 2) (loc' := [some (.ref 46), some (.ref 508)]) (st' := [(.ref 508), (.ref 46)]) (I1 := I) (T1 := T) rfl ?_
  refine ev_callI rfl rfl rfl (fun v1 I1 T1 hq => ?_) (fun x I1 T1 hq => ?_) hq
  · refine ev_br (p := v1 = 0) (a := 14) (b := 4) (st' := []) inferInstance rfl rfl (fun hb => ?_) (fun hb => ?_)
    · have hq := hq.1 hb
      refine ev_fg [false, false] (loc' := [none, none]) rfl ?_
      exact s_M_canDrive_508_14 (T := T1) hq
    · have hq := hq.2 hb
      refine ev_seq 7 (ip' := 11) (loc' := [some (.ref 46), some (.ref 508)]) (st' := [(.int (I1 50 1)), (.int (I1 508 25))]) (I1 := I1) (T1 := T1) rfl ?_
      refine ev_br (p := (I1 50 1) ≤ (I1 508 25)) (a := 14) (b := 12) (st' := []) inferInstance rfl rfl (fun hb => ?_) (fun hb => ?_)
      · have hq := hq.1 hb
        refine ev_fg [false, false] (loc' := [none, none]) rfl ?_
        exact s_M_canDrive_508_14 (T := T1) hq
      · have hq := hq.2 hb
        refine ev_seq 2 (ip' := 15) (loc' := [some (.ref 46), some (.ref 508)]) (st' := [(.int 1)]) (I1 := I1) (T1 := T1) rfl ?_
        refine ev_fg [false, false] (loc' := [none, none]) rfl ?_
        exact s_M_canDrive_508_15 (T := T1) hq
  · exact ⟨by decide, hq⟩
/-- FeltHarnessModel.canDrive([I)Z -/
def t_M_canDrive_509_15 (E : MEnv) (I : II) (T : TT) (Q : QQ) (y0 : Int32) : Prop := (y0 = 0 ∨ y0 = 1) ∧ Q (.inl (some (.int y0))) I T
theorem s_M_canDrive_509_15 {E : MEnv} {I : II} {T : TT} {Q : QQ} {y0 : Int32} (hq : t_M_canDrive_509_15 E I T Q y0) : ev E 154 15 [none, none] [(.int y0)] I T Q := by
  unfold t_M_canDrive_509_15 at hq
  exact ev_retb rfl rfl hq.1 hq.2
def t_M_canDrive_509_14 (E : MEnv) (I : II) (T : TT) (Q : QQ) : Prop := t_M_canDrive_509_15 E I T Q 0
theorem s_M_canDrive_509_14 {E : MEnv} {I : II} {T : TT} {Q : QQ} (hq : t_M_canDrive_509_14 E I T Q) : ev E 154 14 [none, none] [] I T Q := by
  unfold t_M_canDrive_509_14 at hq
  refine ev_seq 1 (ip' := 15) (loc' := [none, none]) (st' := [(.int 0)]) (I1 := I) (T1 := T) rfl ?_
  exact s_M_canDrive_509_15 (T := T) hq
def t_M_canDrive_509_0 (E : MEnv) (I : II) (T : TT) (Q : QQ) : Prop := ev E 152 0 [some (.ref 46), some (.ref 509), none, none] [] I T (KI (fun v1 I1 T1 => (v1 = 0 → (t_M_canDrive_509_14 E I1 T1 Q )) ∧ (¬ (v1 = 0) → (((I1 50 1) ≤ (I1 509 25) → (t_M_canDrive_509_14 E I1 T1 Q )) ∧ (¬ ((I1 50 1) ≤ (I1 509 25)) → (t_M_canDrive_509_15 E I1 T1 Q 1))))) (fun x I1 T1 => Q (.inr x) I1 T1))
theorem s_M_canDrive_509_0 {E : MEnv} {I : II} {T : TT} {Q : QQ} (hq : t_M_canDrive_509_0 E I T Q) : ev E 154 0 [some (.ref 46), some (.ref 509)] [] I T Q := by
  unfold t_M_canDrive_509_0 at hq
  refine ev_seq 2 (ip' := 2) (loc' := [some (.ref 46), some (.ref 509)]) (st' := [(.ref 509), (.ref 46)]) (I1 := I) (T1 := T) rfl ?_
  refine ev_callI rfl rfl rfl (fun v1 I1 T1 hq => ?_) (fun x I1 T1 hq => ?_) hq
  · refine ev_br (p := v1 = 0) (a := 14) (b := 4) (st' := []) inferInstance rfl rfl (fun hb => ?_) (fun hb => ?_)
    · have hq := hq.1 hb
      refine ev_fg [false, false] (loc' := [none, none]) rfl ?_
      exact s_M_canDrive_509_14 (T := T1) hq
    · have hq := hq.2 hb
      refine ev_seq 7 (ip' := 11) (loc' := [some (.ref 46), some (.ref 509)]) (st' := [(.int (I1 50 1)), (.int (I1 509 25))]) (I1 := I1) (T1 := T1) rfl ?_
      refine ev_br (p := (I1 50 1) ≤ (I1 509 25)) (a := 14) (b := 12) (st' := []) inferInstance rfl rfl (fun hb => ?_) (fun hb => ?_)
      · have hq := hq.1 hb
        refine ev_fg [false, false] (loc' := [none, none]) rfl ?_
        exact s_M_canDrive_509_14 (T := T1) hq
      · have hq := hq.2 hb
        refine ev_seq 2 (ip' := 15) (loc' := [some (.ref 46), some (.ref 509)]) (st' := [(.int 1)]) (I1 := I1) (T1 := T1) rfl ?_
        refine ev_fg [false, false] (loc' := [none, none]) rfl ?_
        exact s_M_canDrive_509_15 (T := T1) hq
  · exact ⟨by decide, hq⟩
/-- FeltHarnessModel.clashes(I)I -/
def t_M_clashes_62 (E : MEnv) (I : II) (T : TT) (Q : QQ) (y0 : Int32) : Prop := Q (.inl (some (.int y0))) I T
theorem s_M_clashes_62 {E : MEnv} {I : II} {T : TT} {Q : QQ} {y0 : Int32} (hq : t_M_clashes_62 E I T Q y0) : ev E 291 62 [none, none, none, none, none, none, none] [(.int y0)] I T Q := by
  unfold t_M_clashes_62 at hq
  exact ev_ret rfl rfl hq
def t_M_clashes_48 (E : MEnv) (I : II) (T : TT) (Q : QQ) (x1 : Int32) (x2 : Int32) (x4 : Int32) (x5 : Int32) (x6 : Int32) (y0 : Int32) : Prop := ev E 163 0 [some (.int x4), some (.int x6)] [] I T (KI (fun v1 I1 T1 => ev E 291 26 [some (.ref 46), some (.int x1), some (.int x2), some (.int y0), some (.int v1), some (.int (x5 + 1)), none] [] I1 T1 Q) (fun _ _ _ => False))
theorem s_M_clashes_48 {E : MEnv} {I : II} {T : TT} {Q : QQ} {x1 : Int32} {x2 : Int32} {x4 : Int32} {x5 : Int32} {x6 : Int32} {y0 : Int32} (hq : t_M_clashes_48 E I T Q x1 x2 x4 x5 x6 y0) : ev E 291 48 [some (.ref 46), some (.int x1), some (.int x2), none, some (.int x4), some (.int x5), some (.int x6)] [(.int y0)] I T Q := by
  unfold t_M_clashes_48 at hq
  refine ev_seq 3 (ip' := 51) (loc' := [some (.ref 46), some (.int x1), some (.int x2), some (.int y0), some (.int x4), some (.int x5), some (.int x6)]) (st' := [(.int x6), (.int x4)]) (I1 := I) (T1 := T) rfl ?_
  refine ev_callI rfl rfl rfl (fun v1 I1 T1 hq => ?_) (fun x I1 T1 hq => ?_) hq
  · refine ev_seq 3 (ip' := 26) (loc' := [some (.ref 46), some (.int x1), some (.int x2), some (.int y0), some (.int v1), some (.int (x5 + 1)), some (.int x6)]) (st' := []) (I1 := I1) (T1 := T1) rfl ?_
    refine ev_fg [true, true, true, true, true, true, false] (loc' := [some (.ref 46), some (.int x1), some (.int x2), some (.int y0), some (.int v1), some (.int (x5 + 1)), none]) rfl ?_
    exact hq
  · exact hq.elim
def t_M_clashes_26 (E : MEnv) (I : II) (T : TT) (Q : QQ) (x1 : Int32) (x2 : Int32) (x3 : Int32) (x4 : Int32) (x5 : Int32) : Prop := ((I 50 0) ≤ x5 → ((x1 = 0 → (t_M_clashes_62 E I T Q (x2 / 2))) ∧ (¬ (x1 = 0) → (t_M_clashes_62 E I T Q x3)))) ∧ (¬ ((I 50 0) ≤ x5) → ((¬ x5 < 0 ∧ x5.toNatClampNeg < 8) ∧ (ev E 157 0 [some (.int (I 84 x5.toNatClampNeg)), none, none] [] I T (KI (fun v1 I1 T1 => (v1 ≤ x4 → (t_M_clashes_48 E I1 T1 Q x1 (x2 + v1) x4 x5 v1 x3)) ∧ (¬ (v1 ≤ x4) → (t_M_clashes_48 E I1 T1 Q x1 (x2 + v1) x4 x5 v1 x5))) (fun _ _ _ => False)))))
theorem s_M_clashes_26 {E : MEnv} {I : II} {T : TT} {Q : QQ} {x1 : Int32} {x2 : Int32} {x3 : Int32} {x4 : Int32} {x5 : Int32} (hq : t_M_clashes_26 E I T Q x1 x2 x3 x4 x5) : ev E 291 26 [some (.ref 46), some (.int x1), some (.int x2), some (.int x3), some (.int x4), some (.int x5), none] [] I T Q := by
  unfold t_M_clashes_26 at hq
  refine ev_seq 5 (ip' := 31) (loc' := [some (.ref 46), some (.int x1), some (.int x2), some (.int x3), some (.int x4), some (.int x5), none]) (st' := [(.int (I 50 0)), (.int x5)]) (I1 := I) (T1 := T) rfl ?_
  refine ev_br (p := (I 50 0) ≤ x5) (a := 55) (b := 32) (st' := []) inferInstance rfl rfl (fun hb => ?_) (fun hb => ?_)
  · have hq := hq.1 hb
    refine ev_seq 1 (ip' := 56) (loc' := [some (.ref 46), some (.int x1), some (.int x2), some (.int x3), some (.int x4), some (.int x5), none]) (st' := [(.int x1)]) (I1 := I) (T1 := T) rfl ?_
    refine ev_br (p := x1 = 0) (a := 57) (b := 61) (st' := []) inferInstance rfl rfl (fun hb => ?_) (fun hb => ?_)
    · have hq := hq.1 hb
      refine ev_seq 4 (ip' := 62) (loc' := [some (.ref 46), some (.int x1), some (.int x2), some (.int x3), some (.int x4), some (.int x5), none]) (st' := [(.int (x2 / 2))]) (I1 := I) (T1 := T) rfl ?_
      refine ev_fg [false, false, false, false, false, false, true] (loc' := [none, none, none, none, none, none, none]) rfl ?_
      exact s_M_clashes_62 (T := T) hq
    · have hq := hq.2 hb
      refine ev_seq 1 (ip' := 62) (loc' := [some (.ref 46), some (.int x1), some (.int x2), some (.int x3), some (.int x4), some (.int x5), none]) (st' := [(.int x3)]) (I1 := I) (T1 := T) rfl ?_
      refine ev_fg [false, false, false, false, false, false, true] (loc' := [none, none, none, none, none, none, none]) rfl ?_
      exact s_M_clashes_62 (T := T) hq
  · have hq := hq.2 hb
    refine ev_seq 3 (ip' := 35) (loc' := [some (.ref 46), some (.int x1), some (.int x2), some (.int x3), some (.int x4), some (.int x5), none]) (st' := [(.int x5), (.ref 84)]) (I1 := I) (T1 := T) rfl ?_
    obtain ⟨hg, hq⟩ := hq
    refine ev_iald rfl rfl hg ?_
    refine ev_callI rfl rfl rfl (fun v1 I1 T1 hq => ?_) (fun x I1 T1 hq => ?_) hq
    · refine ev_seq 7 (ip' := 44) (loc' := [some (.ref 46), some (.int x1), some (.int (x2 + v1)), some (.int x3), some (.int x4), some (.int x5), some (.int v1)]) (st' := [(.int x4), (.int v1)]) (I1 := I1) (T1 := T1) rfl ?_
      refine ev_br (p := v1 ≤ x4) (a := 47) (b := 45) (st' := []) inferInstance rfl rfl (fun hb => ?_) (fun hb => ?_)
      · have hq := hq.1 hb
        refine ev_seq 1 (ip' := 48) (loc' := [some (.ref 46), some (.int x1), some (.int (x2 + v1)), some (.int x3), some (.int x4), some (.int x5), some (.int v1)]) (st' := [(.int x3)]) (I1 := I1) (T1 := T1) rfl ?_
        refine ev_fg [true, true, true, false, true, true, true] (loc' := [some (.ref 46), some (.int x1), some (.int (x2 + v1)), none, some (.int x4), some (.int x5), some (.int v1)]) rfl ?_
        exact s_M_clashes_48 (T := T1) hq
      · have hq := hq.2 hb
        refine ev_seq 2 (ip' := 48) (loc' := [some (.ref 46), some (.int x1), some (.int (x2 + v1)), some (.int x3), some (.int x4), some (.int x5), some (.int v1)]) (st' := [(.int x5)]) (I1 := I1) (T1 := T1) rfl ?_
        refine ev_fg [true, true, true, false, true, true, true] (loc' := [some (.ref 46), some (.int x1), some (.int (x2 + v1)), none, some (.int x4), some (.int x5), some (.int v1)]) rfl ?_
        exact s_M_clashes_48 (T := T1) hq
    · exact hq.elim
def t_M_clashes_12 (E : MEnv) (I : II) (T : TT) (Q : QQ) (x1 : Int32) (y1 : Int32) : Prop := ev E 58 0 [some (.ref 46), some (.int y1), some (.int 1), some (.int 1)] [] I T (KI (fun v1 I1 T1 => (v1 = 0 → (t_M_clashes_26 E I1 T1 Q x1 0 (-1) 0 0)) ∧ (¬ (v1 = 0) → (Q (.inl (some (.int 0))) I1 T1))) (fun x I1 T1 => Q (.inr x) I1 T1))
theorem s_M_clashes_12 {E : MEnv} {I : II} {T : TT} {Q : QQ} {x1 : Int32} {y1 : Int32} (hq : t_M_clashes_12 E I T Q x1 y1) : ev E 291 12 [some (.ref 46), some (.int x1), none, none, none, none, none] [(.int y1), (.ref 46)] I T Q := by
  unfold t_M_clashes_12 at hq
  refine ev_seq 2 (ip' := 14) (loc' := [some (.ref 46), some (.int x1), none, none, none, none, none]) (st' := [(.int 1), (.int 1), (.int y1), (.ref 46)]) (I1 := I) (T1 := T) rfl ?_
  refine ev_callI rfl rfl rfl (fun v1 I1 T1 hq => ?_) (fun x I1 T1 hq => ?_) hq
  · refine ev_br (p := v1 = 0) (a := 18) (b := 16) (st' := []) inferInstance rfl rfl (fun hb => ?_) (fun hb => ?_)
    · have hq := hq.1 hb
      refine ev_seq 8 (ip' := 26) (loc' := [some (.ref 46), some (.int x1), some (.int 0), some (.int (-1)), some (.int 0), some (.int 0), none]) (st' := []) (I1 := I1) (T1 := T1) rfl ?_
      exact s_M_clashes_26 (T := T1) hq
    · have hq := hq.2 hb
      refine ev_seq 1 (ip' := 17) (loc' := [some (.ref 46), some (.int x1), none, none, none, none, none]) (st' := [(.int 0)]) (I1 := I1) (T1 := T1) rfl ?_
      exact ev_ret rfl rfl hq
  · exact ⟨by decide, hq⟩
def t_M_clashes_0 (E : MEnv) (I : II) (T : TT) (Q : QQ) (x1 : Int32) : Prop := ev E 57 0 [some (.int x1), some (.int 0), some (.int 1)] [] (m_up I 46 0 0) T (KI (fun v1 I1 T1 => (v1 = 0 → (t_M_clashes_12 E I1 T1 Q x1 1)) ∧ (¬ (v1 = 0) → (t_M_clashes_12 E I1 T1 Q x1 0))) (fun _ _ _ => False))
theorem s_M_clashes_0 {E : MEnv} {I : II} {T : TT} {Q : QQ} {x1 : Int32} (hq : t_M_clashes_0 E I T Q x1) : ev E 291 0 [some (.ref 46), some (.int x1), none, none, none, none, none] [] I T Q := by
  unfold t_M_clashes_0 at hq
  refine ev_seq 7 (ip' := 7) (loc' := [some (.ref 46), some (.int x1), none, none, none, none, none]) (st' := [(.int 1), (.int 0), (.int x1), (.ref 46)]) (I1 := m_up I 46 0 0) (T1 := T) rfl ?_
  refine ev_callI rfl rfl rfl (fun v1 I1 T1 hq => ?_) (fun x I1 T1 hq => ?_) hq
  · refine ev_br (p := v1 = 0) (a := 9) (b := 11) (st' := [(.ref 46)]) inferInstance rfl rfl (fun hb => ?_) (fun hb => ?_)
    · have hq := hq.1 hb
      refine ev_seq 2 (ip' := 12) (loc' := [some (.ref 46), some (.int x1), none, none, none, none, none]) (st' := [(.int 1), (.ref 46)]) (I1 := I1) (T1 := T1) rfl ?_
      exact s_M_clashes_12 (T := T1) hq
    · have hq := hq.2 hb
      refine ev_seq 1 (ip' := 12) (loc' := [some (.ref 46), some (.int x1), none, none, none, none, none]) (st' := [(.int 0), (.ref 46)]) (I1 := I1) (T1 := T1) rfl ?_
      exact s_M_clashes_12 (T := T1) hq
  · exact hq.elim
/-- FeltHarnessModel.clashing()V -/
def t_M_clashing_35 (E : MEnv) (I : II) (T : TT) (Q : QQ) (x1 : Int32) (x3 : Int32) : Prop := ((I 46 5) = 0 → ((¬ x1 < 0 ∧ x1.toNatClampNeg < 8) ∧ ((¬ x1 < 0 ∧ x1.toNatClampNeg < 8) ∧ ((¬ x3 < 0 ∧ x3.toNatClampNeg < 8) ∧ ((¬ x3 < 0 ∧ x3.toNatClampNeg < 8) ∧ (Q (.inl none) (m_up (m_up I 83 x1.toNatClampNeg ((I 83 x1.toNatClampNeg) ||| ((1 : Int32) <<< (x3 &&& 31)))) 83 x3.toNatClampNeg (((m_up I 83 x1.toNatClampNeg ((I 83 x1.toNatClampNeg) ||| ((1 : Int32) <<< (x3 &&& 31)))) 83 x3.toNatClampNeg) ||| ((1 : Int32) <<< (x1 &&& 31)))) T)))))) ∧ (¬ ((I 46 5) = 0) → (Q (.inl none) I T))
theorem s_M_clashing_35 {E : MEnv} {I : II} {T : TT} {Q : QQ} {x1 : Int32} {x3 : Int32} (hq : t_M_clashing_35 E I T Q x1 x3) : ev E 73 35 [some (.ref 46), some (.int x1), none, some (.int x3)] [] I T Q := by
  unfold t_M_clashing_35 at hq
  refine ev_seq 2 (ip' := 37) (loc' := [some (.ref 46), some (.int x1), none, some (.int x3)]) (st' := [(.int (I 46 5))]) (I1 := I) (T1 := T) rfl ?_
  refine ev_br (p := (I 46 5) = 0) (a := 39) (b := 38) (st' := []) inferInstance rfl rfl (fun hb => ?_) (fun hb => ?_)
  · have hq := hq.1 hb
    refine ev_seq 4 (ip' := 43) (loc' := [some (.ref 46), some (.int x1), none, some (.int x3)]) (st' := [(.int x1), (.ref 83), (.int x1), (.ref 83)]) (I1 := I) (T1 := T) rfl ?_
    obtain ⟨hg, hq⟩ := hq
    refine ev_iald rfl rfl hg ?_
    refine ev_seq 4 (ip' := 48) (loc' := [some (.ref 46), some (.int x1), none, some (.int x3)]) (st' := [(.int ((I 83 x1.toNatClampNeg) ||| ((1 : Int32) <<< (x3 &&& 31)))), (.int x1), (.ref 83)]) (I1 := I) (T1 := T) rfl ?_
    obtain ⟨hg, hq⟩ := hq
    refine ev_iast rfl rfl hg ?_
    refine ev_seq 4 (ip' := 53) (loc' := [some (.ref 46), some (.int x1), none, some (.int x3)]) (st' := [(.int x3), (.ref 83), (.int x3), (.ref 83)]) (I1 := m_up I 83 x1.toNatClampNeg ((I 83 x1.toNatClampNeg) ||| ((1 : Int32) <<< (x3 &&& 31)))) (T1 := T) rfl ?_
    obtain ⟨hg, hq⟩ := hq
    refine ev_iald rfl rfl hg ?_
    refine ev_seq 4 (ip' := 58) (loc' := [some (.ref 46), some (.int x1), none, some (.int x3)]) (st' := [(.int (((m_up I 83 x1.toNatClampNeg ((I 83 x1.toNatClampNeg) ||| ((1 : Int32) <<< (x3 &&& 31)))) 83 x3.toNatClampNeg) ||| ((1 : Int32) <<< (x1 &&& 31)))), (.int x3), (.ref 83)]) (I1 := m_up I 83 x1.toNatClampNeg ((I 83 x1.toNatClampNeg) ||| ((1 : Int32) <<< (x3 &&& 31)))) (T1 := T) rfl ?_
    obtain ⟨hg, hq⟩ := hq
    refine ev_iast rfl rfl hg ?_
    exact ev_ret rfl rfl hq
  · have hq := hq.2 hb
    exact ev_ret rfl rfl hq
def t_M_clashing_0 (E : MEnv) (I : II) (T : TT) (Q : QQ) : Prop := ev E 71 0 [some (.ref 46), some (.int 0), some (.int ((I 49 0) - 1)), none, none] [] I T (KI (fun v1 I1 T1 => ev E 60 0 [some (.ref 46)] [] I1 T1 (KV (fun I2 T2 => ev E 71 0 [some (.ref 46), some (.int 0), some (.int ((I2 49 0) - 1)), none, none] [] I2 T2 (KI (fun v3 I3 T3 => ((I3 46 5) = 0 → ((v1 = v3 → (ev E 69 0 [some (.ref 46), some (.int 2), some (.int (I2 46 4))] [] I3 T3 (KV (fun I4 T4 => t_M_clashing_35 E I4 T4 Q v1 v3) (fun x I1 T1 => Q (.inr x) I1 T1)))) ∧ (¬ (v1 = v3) → (t_M_clashing_35 E I3 T3 Q v1 v3)))) ∧ (¬ ((I3 46 5) = 0) → (t_M_clashing_35 E I3 T3 Q v1 v3))) (fun x I1 T1 => Q (.inr x) I1 T1))) (fun x I1 T1 => Q (.inr x) I1 T1))) (fun x I1 T1 => Q (.inr x) I1 T1))
theorem s_M_clashing_0 {E : MEnv} {I : II} {T : TT} {Q : QQ} (hq : t_M_clashing_0 E I T Q) : ev E 73 0 [some (.ref 46), none, none, none] [] I T Q := by
  unfold t_M_clashing_0 at hq
  refine ev_seq 8 (ip' := 8) (loc' := [some (.ref 46), none, none, none]) (st' := [(.int ((I 49 0) - 1)), (.int 0), (.ref 46)]) (I1 := I) (T1 := T) rfl ?_
  refine ev_callI rfl rfl rfl (fun v1 I1 T1 hq => ?_) (fun x I1 T1 hq => ?_) hq
  · refine ev_seq 2 (ip' := 11) (loc' := [some (.ref 46), some (.int v1), none, none]) (st' := [(.ref 46)]) (I1 := I1) (T1 := T1) rfl ?_
    refine ev_callV rfl rfl rfl (fun I2 T2 hq => ?_) (fun x I1 T1 hq => ?_) hq
    · refine ev_seq 11 (ip' := 23) (loc' := [some (.ref 46), some (.int v1), some (.int (I2 46 4)), none]) (st' := [(.int ((I2 49 0) - 1)), (.int 0), (.ref 46)]) (I1 := I2) (T1 := T2) rfl ?_
      refine ev_callI rfl rfl rfl (fun v3 I3 T3 hq => ?_) (fun x I1 T1 hq => ?_) hq
      · refine ev_seq 3 (ip' := 27) (loc' := [some (.ref 46), some (.int v1), some (.int (I2 46 4)), some (.int v3)]) (st' := [(.int (I3 46 5))]) (I1 := I3) (T1 := T3) rfl ?_
        refine ev_br (p := (I3 46 5) = 0) (a := 28) (b := 35) (st' := []) inferInstance rfl rfl (fun hb => ?_) (fun hb => ?_)
        · have hq := hq.1 hb
          refine ev_seq 2 (ip' := 30) (loc' := [some (.ref 46), some (.int v1), some (.int (I2 46 4)), some (.int v3)]) (st' := [(.int v3), (.int v1)]) (I1 := I3) (T1 := T3) rfl ?_
          refine ev_br (p := v1 = v3) (a := 31) (b := 35) (st' := []) inferInstance rfl rfl (fun hb => ?_) (fun hb => ?_)
          · have hq := hq.1 hb
            refine ev_seq 3 (ip' := 34) (loc' := [some (.ref 46), some (.int v1), some (.int (I2 46 4)), some (.int v3)]) (st' := [(.int (I2 46 4)), (.int 2), (.ref 46)]) (I1 := I3) (T1 := T3) rfl ?_
            refine ev_callV rfl rfl rfl (fun I4 T4 hq => ?_) (fun x I1 T1 hq => ?_) hq
            · refine ev_fg [true, true, false, true] (loc' := [some (.ref 46), some (.int v1), none, some (.int v3)]) rfl ?_
              exact s_M_clashing_35 (T := T4) hq
            · exact ⟨by decide, hq⟩
          · have hq := hq.2 hb
            refine ev_fg [true, true, false, true] (loc' := [some (.ref 46), some (.int v1), none, some (.int v3)]) rfl ?_
            exact s_M_clashing_35 (T := T3) hq
        · have hq := hq.2 hb
          refine ev_fg [true, true, false, true] (loc' := [some (.ref 46), some (.int v1), none, some (.int v3)]) rfl ?_
          exact s_M_clashing_35 (T := T3) hq
      · exact ⟨by decide, hq⟩
    · exact ⟨by decide, hq⟩
  · exact ⟨by decide, hq⟩
/-- FeltHarnessModel.clause()V -/
def t_M_clause_146 (E : MEnv) (I : II) (T : TT) (Q : QQ) : Prop := Q (.inl none) I T
theorem s_M_clause_146 {E : MEnv} {I : II} {T : TT} {Q : QQ} (hq : t_M_clause_146 E I T Q) : ev E 62 146 [none, none] [] I T Q := by
  unfold t_M_clause_146 at hq
  exact ev_ret rfl rfl hq
def t_M_clause_144 (E : MEnv) (I : II) (T : TT) (Q : QQ) (y1 : Int32) (y2 : Int32) (y3 : Int32) : Prop := (¬ y1 < 0 ∧ y1.toNatClampNeg < 3) ∧ (t_M_clause_146 E (m_up I 49 y1.toNatClampNeg (y2 + y3)) T Q )
theorem s_M_clause_144 {E : MEnv} {I : II} {T : TT} {Q : QQ} {y1 : Int32} {y2 : Int32} {y3 : Int32} (hq : t_M_clause_144 E I T Q y1 y2 y3) : ev E 62 144 [none, none] [(.int y3), (.int y2), (.int y1), (.ref 49)] I T Q := by
  unfold t_M_clause_144 at hq
  refine ev_seq 1 (ip' := 145) (loc' := [none, none]) (st' := [(.int (y2 + y3)), (.int y1), (.ref 49)]) (I1 := I) (T1 := T) rfl ?_
  obtain ⟨hg, hq⟩ := hq
  refine ev_iast rfl rfl hg ?_
  exact s_M_clause_146 (T := T) hq
def t_M_clause_131 (E : MEnv) (I : II) (T : TT) (Q : QQ) (x1 : Int32) : Prop := (¬ (x1 / 2) < 0 ∧ (x1 / 2).toNatClampNeg < 3) ∧ (((I 46 5) = 0 → (t_M_clause_144 E I T Q (x1 / 2) (I 49 (x1 / 2).toNatClampNeg) 1)) ∧ (¬ ((I 46 5) = 0) → (t_M_clause_144 E I T Q (x1 / 2) (I 49 (x1 / 2).toNatClampNeg) 0)))
theorem s_M_clause_131 {E : MEnv} {I : II} {T : TT} {Q : QQ} {x1 : Int32} (hq : t_M_clause_131 E I T Q x1) : ev E 62 131 [some (.ref 46), some (.int x1)] [] I T Q := by
  unfold t_M_clause_131 at hq
  refine ev_seq 6 (ip' := 137) (loc' := [some (.ref 46), some (.int x1)]) (st' := [(.int (x1 / 2)), (.ref 49), (.int (x1 / 2)), (.ref 49)]) (I1 := I) (T1 := T) rfl ?_
  obtain ⟨hg, hq⟩ := hq
  refine ev_iald rfl rfl hg ?_
  refine ev_seq 2 (ip' := 140) (loc' := [some (.ref 46), some (.int x1)]) (st' := [(.int (I 46 5)), (.int (I 49 (x1 / 2).toNatClampNeg)), (.int (x1 / 2)), (.ref 49)]) (I1 := I) (T1 := T) rfl ?_
  refine ev_br (p := (I 46 5) = 0) (a := 141) (b := 143) (st' := [(.int (I 49 (x1 / 2).toNatClampNeg)), (.int (x1 / 2)), (.ref 49)]) inferInstance rfl rfl (fun hb => ?_) (fun hb => ?_)
  · have hq := hq.1 hb
    refine ev_seq 2 (ip' := 144) (loc' := [some (.ref 46), some (.int x1)]) (st' := [(.int 1), (.int (I 49 (x1 / 2).toNatClampNeg)), (.int (x1 / 2)), (.ref 49)]) (I1 := I) (T1 := T) rfl ?_
    refine ev_fg [false, false] (loc' := [none, none]) rfl ?_
    exact s_M_clause_144 (T := T) hq
  · have hq := hq.2 hb
    refine ev_seq 1 (ip' := 144) (loc' := [some (.ref 46), some (.int x1)]) (st' := [(.int 0), (.int (I 49 (x1 / 2).toNatClampNeg)), (.int (x1 / 2)), (.ref 49)]) (I1 := I) (T1 := T) rfl ?_
    refine ev_fg [false, false] (loc' := [none, none]) rfl ?_
    exact s_M_clause_144 (T := T) hq
def t_M_clause_123 (E : MEnv) (I : II) (T : TT) (Q : QQ) (x1 : Int32) : Prop := ev E 74 0 [some (.ref 46), some (.int 59)] [] I T (KV (fun I1 T1 => (x1 = 0 → (t_M_clause_131 E I1 T1 Q x1)) ∧ (¬ (x1 = 0) → ((x1 = 2 → (t_M_clause_131 E I1 T1 Q x1)) ∧ (¬ (x1 = 2) → (t_M_clause_146 E I1 T1 Q ))))) (fun x I1 T1 => Q (.inr x) I1 T1))
theorem s_M_clause_123 {E : MEnv} {I : II} {T : TT} {Q : QQ} {x1 : Int32} (hq : t_M_clause_123 E I T Q x1) : ev E 62 123 [some (.ref 46), some (.int x1)] [] I T Q := by
  unfold t_M_clause_123 at hq
  refine ev_seq 2 (ip' := 125) (loc' := [some (.ref 46), some (.int x1)]) (st' := [(.int 59), (.ref 46)]) (I1 := I) (T1 := T) rfl ?_
  refine ev_callV rfl rfl rfl (fun I1 T1 hq => ?_) (fun x I1 T1 hq => ?_) hq
  · refine ev_seq 1 (ip' := 127) (loc' := [some (.ref 46), some (.int x1)]) (st' := [(.int x1)]) (I1 := I1) (T1 := T1) rfl ?_
    refine ev_br (p := x1 = 0) (a := 131) (b := 128) (st' := []) inferInstance rfl rfl (fun hb => ?_) (fun hb => ?_)
    · have hq := hq.1 hb
      exact s_M_clause_131 (T := T1) hq
    · have hq := hq.2 hb
      refine ev_seq 2 (ip' := 130) (loc' := [some (.ref 46), some (.int x1)]) (st' := [(.int 2), (.int x1)]) (I1 := I1) (T1 := T1) rfl ?_
      refine ev_br (p := x1 = 2) (a := 131) (b := 146) (st' := []) inferInstance rfl rfl (fun hb => ?_) (fun hb => ?_)
      · have hq := hq.1 hb
        exact s_M_clause_131 (T := T1) hq
      · have hq := hq.2 hb
        refine ev_fg [false, false] (loc' := [none, none]) rfl ?_
        exact s_M_clause_146 (T := T1) hq
  · exact ⟨by decide, hq⟩
def t_M_clause_112 (E : MEnv) (I : II) (T : TT) (Q : QQ) (x1 : Int32) : Prop := (x1 = 3 → (ev E 71 0 [some (.ref 46), some (.int 1), some (.int 40), none, none] [] I T (KI (fun v1 I1 T1 => t_M_clause_123 E (m_up I1 49 2 v1) T1 Q x1) (fun x I1 T1 => Q (.inr x) I1 T1)))) ∧ (¬ (x1 = 3) → (t_M_clause_123 E I T Q x1))
theorem s_M_clause_112 {E : MEnv} {I : II} {T : TT} {Q : QQ} {x1 : Int32} (hq : t_M_clause_112 E I T Q x1) : ev E 62 112 [some (.ref 46), some (.int x1)] [] I T Q := by
  unfold t_M_clause_112 at hq
  refine ev_seq 2 (ip' := 114) (loc' := [some (.ref 46), some (.int x1)]) (st' := [(.int 3), (.int x1)]) (I1 := I) (T1 := T) rfl ?_
  refine ev_br (p := x1 = 3) (a := 115) (b := 123) (st' := []) inferInstance rfl rfl (fun hb => ?_) (fun hb => ?_)
  · have hq := hq.1 hb
    refine ev_seq 6 (ip' := 121) (loc' := [some (.ref 46), some (.int x1)]) (st' := [(.int 40), (.int 1), (.ref 46), (.int 2), (.ref 49)]) (I1 := I) (T1 := T) rfl ?_
    refine ev_callI rfl rfl rfl (fun v1 I1 T1 hq => ?_) (fun x I1 T1 hq => ?_) hq
    · refine ev_seq 1 (ip' := 123) (loc' := [some (.ref 46), some (.int x1)]) (st' := []) (I1 := m_up I1 49 2 v1) (T1 := T1) rfl ?_
      exact s_M_clause_123 (T := T1) hq
    · exact ⟨by decide, hq⟩
  · have hq := hq.2 hb
    exact s_M_clause_123 (T := T) hq
def t_M_clause_83 (E : MEnv) (I : II) (T : TT) (Q : QQ) (x1 : Int32) : Prop := (x1 = 2 → ((¬ (I 49 1) < 0 ∧ (I 49 1).toNatClampNeg < 6) ∧ (ev E 71 0 [some (.ref 46), some (.int 1), some (.int 60), none, none] [] I T (KI (fun v2 I2 T2 => (¬ ((m_up I2 (70 + (I 49 1).toNatClampNeg) 0 v2) 49 1) < 0 ∧ ((m_up I2 (70 + (I 49 1).toNatClampNeg) 0 v2) 49 1).toNatClampNeg < 6) ∧ (ev E 71 0 [some (.ref 46), some (.int 0), some (.int 9), none, none] [] (m_up I2 (70 + (I 49 1).toNatClampNeg) 0 v2) T2 (KI (fun v4 I4 T4 => t_M_clause_112 E (m_up I4 (70 + ((m_up I2 (70 + (I 49 1).toNatClampNeg) 0 v2) 49 1).toNatClampNeg) 1 v4) T4 Q x1) (fun x I1 T1 => Q (.inr x) I1 T1)))) (fun x I1 T1 => Q (.inr x) I1 T1))))) ∧ (¬ (x1 = 2) → (t_M_clause_112 E I T Q x1))
theorem s_M_clause_83 {E : MEnv} {I : II} {T : TT} {Q : QQ} {x1 : Int32} (hq : t_M_clause_83 E I T Q x1) : ev E 62 83 [some (.ref 46), some (.int x1)] [] I T Q := by
  unfold t_M_clause_83 at hq
  refine ev_seq 2 (ip' := 85) (loc' := [some (.ref 46), some (.int x1)]) (st' := [(.int 2), (.int x1)]) (I1 := I) (T1 := T) rfl ?_
  refine ev_br (p := x1 = 2) (a := 86) (b := 112) (st' := []) inferInstance rfl rfl (fun hb => ?_) (fun hb => ?_)
  · have hq := hq.1 hb
    refine ev_seq 6 (ip' := 92) (loc' := [some (.ref 46), some (.int x1)]) (st' := [(.int (I 49 1)), (.ref 69)]) (I1 := I) (T1 := T) rfl ?_
    obtain ⟨hg, hq⟩ := hq
    have hr1 := hg
    refine ev_aald rfl rfl hg (RF_69 hg.2) ?_
    refine ev_seq 4 (ip' := 97) (loc' := [some (.ref 46), some (.int x1)]) (st' := [(.int 60), (.int 1), (.ref 46), (.int 0), (.ref (70 + (I 49 1).toNatClampNeg))]) (I1 := I) (T1 := T) rfl ?_
    refine ev_callI rfl rfl rfl (fun v2 I2 T2 hq => ?_) (fun x I1 T1 hq => ?_) hq
    · refine ev_iast rfl (KF_69 hr1.2) ⟨by decide, by decide⟩ ?_
      refine ev_seq 6 (ip' := 105) (loc' := [some (.ref 46), some (.int x1)]) (st' := [(.int ((m_up I2 (70 + (I 49 1).toNatClampNeg) 0 v2) 49 1)), (.ref 69)]) (I1 := m_up I2 (70 + (I 49 1).toNatClampNeg) 0 v2) (T1 := T2) rfl ?_
      obtain ⟨hg, hq⟩ := hq
      have hr3 := hg
      refine ev_aald rfl rfl hg (RF_69 hg.2) ?_
      refine ev_seq 4 (ip' := 110) (loc' := [some (.ref 46), some (.int x1)]) (st' := [(.int 9), (.int 0), (.ref 46), (.int 1), (.ref (70 + ((m_up I2 (70 + (I 49 1).toNatClampNeg) 0 v2) 49 1).toNatClampNeg))]) (I1 := m_up I2 (70 + (I 49 1).toNatClampNeg) 0 v2) (T1 := T2) rfl ?_
      refine ev_callI rfl rfl rfl (fun v4 I4 T4 hq => ?_) (fun x I1 T1 hq => ?_) hq
      · refine ev_iast rfl (KF_69 hr3.2) ⟨by decide, by decide⟩ ?_
        exact s_M_clause_112 (T := T4) hq
      · exact ⟨by decide, hq⟩
    · exact ⟨by decide, hq⟩
  · have hq := hq.2 hb
    exact s_M_clause_112 (T := T) hq
def t_M_clause_78 (E : MEnv) (I : II) (T : TT) (Q : QQ) (x1 : Int32) : Prop := (x1 = 1 → (ev E 73 0 [some (.ref 46), none, none, none] [] I T (KV (fun I1 T1 => t_M_clause_83 E I1 T1 Q x1) (fun x I1 T1 => Q (.inr x) I1 T1)))) ∧ (¬ (x1 = 1) → (t_M_clause_83 E I T Q x1))
theorem s_M_clause_78 {E : MEnv} {I : II} {T : TT} {Q : QQ} {x1 : Int32} (hq : t_M_clause_78 E I T Q x1) : ev E 62 78 [some (.ref 46), some (.int x1)] [] I T Q := by
  unfold t_M_clause_78 at hq
  refine ev_seq 2 (ip' := 80) (loc' := [some (.ref 46), some (.int x1)]) (st' := [(.int 1), (.int x1)]) (I1 := I) (T1 := T) rfl ?_
  refine ev_br (p := x1 = 1) (a := 81) (b := 83) (st' := []) inferInstance rfl rfl (fun hb => ?_) (fun hb => ?_)
  · have hq := hq.1 hb
    refine ev_seq 1 (ip' := 82) (loc' := [some (.ref 46), some (.int x1)]) (st' := [(.ref 46)]) (I1 := I) (T1 := T) rfl ?_
    refine ev_callV rfl rfl rfl (fun I1 T1 hq => ?_) (fun x I1 T1 hq => ?_) hq
    · exact s_M_clause_83 (T := T1) hq
    · exact ⟨by decide, hq⟩
  · have hq := hq.2 hb
    exact s_M_clause_83 (T := T) hq
def t_M_clause_38 (E : MEnv) (I : II) (T : TT) (Q : QQ) (x1 : Int32) : Prop := ((I 46 5) = 0 → (ev E 70 0 [some (.ref 46)] [] I T (KV (fun I1 T1 => (x1 = 0 → ((¬ ((m_up I1 46 7 ((I1 46 7) + 1)) 49 0) < 0 ∧ ((m_up I1 46 7 ((I1 46 7) + 1)) 49 0).toNatClampNeg < 8) ∧ (ev E 71 0 [some (.ref 46), some (.int 1), some (.int 20), none, none] [] (m_up I1 46 7 ((I1 46 7) + 1)) T1 (KI (fun v3 I3 T3 => (¬ ((m_up I3 (52 + ((m_up I1 46 7 ((I1 46 7) + 1)) 49 0).toNatClampNeg) 0 v3) 49 0) < 0 ∧ ((m_up I3 (52 + ((m_up I1 46 7 ((I1 46 7) + 1)) 49 0).toNatClampNeg) 0 v3) 49 0).toNatClampNeg < 8) ∧ (ev E 71 0 [some (.ref 46), some (.int 0), some (.int 9), none, none] [] (m_up I3 (52 + ((m_up I1 46 7 ((I1 46 7) + 1)) 49 0).toNatClampNeg) 0 v3) T3 (KI (fun v5 I5 T5 => t_M_clause_78 E (m_up I5 (52 + ((m_up I3 (52 + ((m_up I1 46 7 ((I1 46 7) + 1)) 49 0).toNatClampNeg) 0 v3) 49 0).toNatClampNeg) 1 v5) T5 Q x1) (fun x I1 T1 => Q (.inr x) I1 T1)))) (fun x I1 T1 => Q (.inr x) I1 T1))))) ∧ (¬ (x1 = 0) → (t_M_clause_78 E (m_up I1 46 7 ((I1 46 7) + 1)) T1 Q x1))) (fun x I1 T1 => Q (.inr x) I1 T1)))) ∧ (¬ ((I 46 5) = 0) → (Q (.inl none) I T))
theorem s_M_clause_38 {E : MEnv} {I : II} {T : TT} {Q : QQ} {x1 : Int32} (hq : t_M_clause_38 E I T Q x1) : ev E 62 38 [some (.ref 46), some (.int x1)] [] I T Q := by
  unfold t_M_clause_38 at hq
  refine ev_seq 2 (ip' := 40) (loc' := [some (.ref 46), some (.int x1)]) (st' := [(.int (I 46 5))]) (I1 := I) (T1 := T) rfl ?_
  refine ev_br (p := (I 46 5) = 0) (a := 42) (b := 41) (st' := []) inferInstance rfl rfl (fun hb => ?_) (fun hb => ?_)
  · have hq := hq.1 hb
    refine ev_seq 1 (ip' := 43) (loc' := [some (.ref 46), some (.int x1)]) (st' := [(.ref 46)]) (I1 := I) (T1 := T) rfl ?_
    refine ev_callV rfl rfl rfl (fun I1 T1 hq => ?_) (fun x I1 T1 hq => ?_) hq
    · refine ev_seq 7 (ip' := 51) (loc' := [some (.ref 46), some (.int x1)]) (st' := [(.int x1)]) (I1 := m_up I1 46 7 ((I1 46 7) + 1)) (T1 := T1) rfl ?_
      refine ev_br (p := x1 = 0) (a := 52) (b := 78) (st' := []) inferInstance rfl rfl (fun hb => ?_) (fun hb => ?_)
      · have hq := hq.1 hb
        refine ev_seq 6 (ip' := 58) (loc' := [some (.ref 46), some (.int x1)]) (st' := [(.int ((m_up I1 46 7 ((I1 46 7) + 1)) 49 0)), (.ref 51)]) (I1 := m_up I1 46 7 ((I1 46 7) + 1)) (T1 := T1) rfl ?_
        obtain ⟨hg, hq⟩ := hq
        have hr2 := hg
        refine ev_aald rfl rfl hg (RF_51 hg.2) ?_
        refine ev_seq 4 (ip' := 63) (loc' := [some (.ref 46), some (.int x1)]) (st' := [(.int 20), (.int 1), (.ref 46), (.int 0), (.ref (52 + ((m_up I1 46 7 ((I1 46 7) + 1)) 49 0).toNatClampNeg))]) (I1 := m_up I1 46 7 ((I1 46 7) + 1)) (T1 := T1) rfl ?_
        refine ev_callI rfl rfl rfl (fun v3 I3 T3 hq => ?_) (fun x I1 T1 hq => ?_) hq
        · refine ev_iast rfl (KF_51 hr2.2) ⟨by decide, by decide⟩ ?_
          refine ev_seq 6 (ip' := 71) (loc' := [some (.ref 46), some (.int x1)]) (st' := [(.int ((m_up I3 (52 + ((m_up I1 46 7 ((I1 46 7) + 1)) 49 0).toNatClampNeg) 0 v3) 49 0)), (.ref 51)]) (I1 := m_up I3 (52 + ((m_up I1 46 7 ((I1 46 7) + 1)) 49 0).toNatClampNeg) 0 v3) (T1 := T3) rfl ?_
          obtain ⟨hg, hq⟩ := hq
          have hr4 := hg
          refine ev_aald rfl rfl hg (RF_51 hg.2) ?_
          refine ev_seq 4 (ip' := 76) (loc' := [some (.ref 46), some (.int x1)]) (st' := [(.int 9), (.int 0), (.ref 46), (.int 1), (.ref (52 + ((m_up I3 (52 + ((m_up I1 46 7 ((I1 46 7) + 1)) 49 0).toNatClampNeg) 0 v3) 49 0).toNatClampNeg))]) (I1 := m_up I3 (52 + ((m_up I1 46 7 ((I1 46 7) + 1)) 49 0).toNatClampNeg) 0 v3) (T1 := T3) rfl ?_
          refine ev_callI rfl rfl rfl (fun v5 I5 T5 hq => ?_) (fun x I1 T1 hq => ?_) hq
          · refine ev_iast rfl (KF_51 hr4.2) ⟨by decide, by decide⟩ ?_
            exact s_M_clause_78 (T := T5) hq
          · exact ⟨by decide, hq⟩
        · exact ⟨by decide, hq⟩
      · have hq := hq.2 hb
        exact s_M_clause_78 (T := T1) hq
    · exact ⟨by decide, hq⟩
  · have hq := hq.2 hb
    exact ev_ret rfl rfl hq
def t_M_clause_33 (E : MEnv) (I : II) (T : TT) (Q : QQ) (x1 : Int32) : Prop := ev E 69 0 [some (.ref 46), some (.int 3), some (.int (I 46 4))] [] I T (KV (fun I1 T1 => t_M_clause_38 E I1 T1 Q x1) (fun x I1 T1 => Q (.inr x) I1 T1))
theorem s_M_clause_33 {E : MEnv} {I : II} {T : TT} {Q : QQ} {x1 : Int32} (hq : t_M_clause_33 E I T Q x1) : ev E 62 33 [some (.ref 46), some (.int x1)] [] I T Q := by
  unfold t_M_clause_33 at hq
  refine ev_seq 4 (ip' := 37) (loc' := [some (.ref 46), some (.int x1)]) (st' := [(.int (I 46 4)), (.int 3), (.ref 46)]) (I1 := I) (T1 := T) rfl ?_
  refine ev_callV rfl rfl rfl (fun I1 T1 hq => ?_) (fun x I1 T1 hq => ?_) hq
  · exact s_M_clause_38 (T := T1) hq
  · exact ⟨by decide, hq⟩
def t_M_clause_24 (E : MEnv) (I : II) (T : TT) (Q : QQ) (x1 : Int32) : Prop := (x1 = 2 → (((I 49 1) = 6 → (t_M_clause_33 E I T Q x1)) ∧ (¬ ((I 49 1) = 6) → (t_M_clause_38 E I T Q x1)))) ∧ (¬ (x1 = 2) → (t_M_clause_38 E I T Q x1))
theorem s_M_clause_24 {E : MEnv} {I : II} {T : TT} {Q : QQ} {x1 : Int32} (hq : t_M_clause_24 E I T Q x1) : ev E 62 24 [some (.ref 46), some (.int x1)] [] I T Q := by
  unfold t_M_clause_24 at hq
  refine ev_seq 2 (ip' := 26) (loc' := [some (.ref 46), some (.int x1)]) (st' := [(.int 2), (.int x1)]) (I1 := I) (T1 := T) rfl ?_
  refine ev_br (p := x1 = 2) (a := 27) (b := 38) (st' := []) inferInstance rfl rfl (fun hb => ?_) (fun hb => ?_)
  · have hq := hq.1 hb
    refine ev_seq 5 (ip' := 32) (loc' := [some (.ref 46), some (.int x1)]) (st' := [(.int 6), (.int (I 49 1))]) (I1 := I) (T1 := T) rfl ?_
    refine ev_br (p := (I 49 1) = 6) (a := 33) (b := 38) (st' := []) inferInstance rfl rfl (fun hb => ?_) (fun hb => ?_)
    · have hq := hq.1 hb
      exact s_M_clause_33 (T := T) hq
    · have hq := hq.2 hb
      exact s_M_clause_38 (T := T) hq
  · have hq := hq.2 hb
    exact s_M_clause_38 (T := T) hq
def t_M_clause_0 (E : MEnv) (I : II) (T : TT) (Q : QQ) : Prop := ev E 63 0 [some (.ref 46)] [] I T (KI (fun v1 I1 T1 => (v1 = (-1) → (ev E 69 0 [some (.ref 46), some (.int 1), some (.int (I1 46 4))] [] I1 T1 (KV (fun I2 T2 => t_M_clause_38 E I2 T2 Q v1) (fun x I1 T1 => Q (.inr x) I1 T1)))) ∧ (¬ (v1 = (-1)) → (((I1 46 7) = 60 → (t_M_clause_33 E I1 T1 Q v1)) ∧ (¬ ((I1 46 7) = 60) → ((v1 = 0 → (((I1 49 0) = 8 → (t_M_clause_33 E I1 T1 Q v1)) ∧ (¬ ((I1 49 0) = 8) → (t_M_clause_24 E I1 T1 Q v1)))) ∧ (¬ (v1 = 0) → (t_M_clause_24 E I1 T1 Q v1))))))) (fun x I1 T1 => Q (.inr x) I1 T1))
theorem s_M_clause_0 {E : MEnv} {I : II} {T : TT} {Q : QQ} (hq : t_M_clause_0 E I T Q) : ev E 62 0 [some (.ref 46), none] [] I T Q := by
  unfold t_M_clause_0 at hq
  refine ev_seq 1 (ip' := 1) (loc' := [some (.ref 46), none]) (st' := [(.ref 46)]) (I1 := I) (T1 := T) rfl ?_
  refine ev_callI rfl rfl rfl (fun v1 I1 T1 hq => ?_) (fun x I1 T1 hq => ?_) hq
  · refine ev_seq 3 (ip' := 5) (loc' := [some (.ref 46), some (.int v1)]) (st' := [(.int (-1)), (.int v1)]) (I1 := I1) (T1 := T1) rfl ?_
    refine ev_br (p := v1 = (-1)) (a := 6) (b := 12) (st' := []) inferInstance rfl rfl (fun hb => ?_) (fun hb => ?_)
    · have hq := hq.1 hb
      refine ev_seq 4 (ip' := 10) (loc' := [some (.ref 46), some (.int v1)]) (st' := [(.int (I1 46 4)), (.int 1), (.ref 46)]) (I1 := I1) (T1 := T1) rfl ?_
      refine ev_callV rfl rfl rfl (fun I2 T2 hq => ?_) (fun x I1 T1 hq => ?_) hq
      · refine ev_seq 1 (ip' := 38) (loc' := [some (.ref 46), some (.int v1)]) (st' := []) (I1 := I2) (T1 := T2) rfl ?_
        exact s_M_clause_38 (T := T2) hq
      · exact ⟨by decide, hq⟩
    · have hq := hq.2 hb
      refine ev_seq 3 (ip' := 15) (loc' := [some (.ref 46), some (.int v1)]) (st' := [(.int 60), (.int (I1 46 7))]) (I1 := I1) (T1 := T1) rfl ?_
      refine ev_br (p := (I1 46 7) = 60) (a := 33) (b := 16) (st' := []) inferInstance rfl rfl (fun hb => ?_) (fun hb => ?_)
      · have hq := hq.1 hb
        exact s_M_clause_33 (T := T1) hq
      · have hq := hq.2 hb
        refine ev_seq 1 (ip' := 17) (loc' := [some (.ref 46), some (.int v1)]) (st' := [(.int v1)]) (I1 := I1) (T1 := T1) rfl ?_
        refine ev_br (p := v1 = 0) (a := 18) (b := 24) (st' := []) inferInstance rfl rfl (fun hb => ?_) (fun hb => ?_)
        · have hq := hq.1 hb
          refine ev_seq 5 (ip' := 23) (loc' := [some (.ref 46), some (.int v1)]) (st' := [(.int 8), (.int (I1 49 0))]) (I1 := I1) (T1 := T1) rfl ?_
          refine ev_br (p := (I1 49 0) = 8) (a := 33) (b := 24) (st' := []) inferInstance rfl rfl (fun hb => ?_) (fun hb => ?_)
          · have hq := hq.1 hb
            exact s_M_clause_33 (T := T1) hq
          · have hq := hq.2 hb
            exact s_M_clause_24 (T := T1) hq
        · have hq := hq.2 hb
          exact s_M_clause_24 (T := T1) hq
  · exact ⟨by decide, hq⟩
