/-- FeltHarnessLaw.law([I)Z -/
def t_W_main_13 (E : MEnv) (I : II) (T : TT) (Q : QQ) (x4 : Int32) : Prop := (((Int32.ofNat E.2.1) - 9) < x4 → (Q (.inl (some (.int 1))) I T)) ∧ (¬ (((Int32.ofNat E.2.1) - 9) < x4) → ((¬ x4 < 0 ∧ x4.toNatClampNeg < E.2.1) ∧ (ev E 0 (m_tsw 0 42 [25, 82, 117, 152, 187, 222, 229, 236, 271, 316, 361, 396, 441, 546, 581, 588, 595, 640, 685, 692, 727, 762, 797, 832, 887, 951, 1006, 1041, 1076, 1111, 1146, 1153, 1160, 1205, 1240, 1275, 1310, 1345, 1410, 1495, 1502, 1509, 1526] 1543 ((E.2.2 x4.toNatClampNeg) &&& 63)) [some (.ref 2000000), some (.ref 0), some (.ref 46), some (.ref 536), some (.int x4), none, none, none] [] I T Q)))
theorem s_W_main_13 {E : MEnv} {I : II} {T : TT} {Q : QQ} {x4 : Int32} (hq : t_W_main_13 E I T Q x4) : ev E 0 13 [some (.ref 2000000), some (.ref 0), some (.ref 46), some (.ref 536), some (.int x4), none, none, none] [] I T Q := by
  unfold t_W_main_13 at hq
  refine ev_seq 5 (ip' := 18) (loc' := [some (.ref 2000000), some (.ref 0), some (.ref 46), some (.ref 536), some (.int x4), none, none, none]) (st' := [(.int ((Int32.ofNat E.2.1) - 9)), (.int x4)]) (I1 := I) (T1 := T) rfl ?_
  refine ev_br (p := ((Int32.ofNat E.2.1) - 9) < x4) (a := 1545) (b := 19) (st' := []) inferInstance rfl rfl (fun hb => ?_) (fun hb => ?_)
  · have hq := hq.1 hb
    refine ev_seq 1 (ip' := 1546) (loc' := [some (.ref 2000000), some (.ref 0), some (.ref 46), some (.ref 536), some (.int x4), none, none, none]) (st' := [(.int 1)]) (I1 := I) (T1 := T) rfl ?_
    exact ev_ret rfl rfl hq
  · have hq := hq.2 hb
    refine ev_seq 2 (ip' := 21) (loc' := [some (.ref 2000000), some (.ref 0), some (.ref 46), some (.ref 536), some (.int x4), none, none, none]) (st' := [(.int x4), (.ref 2000000)]) (I1 := I) (T1 := T) rfl ?_
    obtain ⟨hg, hq⟩ := hq
    refine ev_xald rfl hg ?_
    refine ev_seq 2 (ip' := 24) (loc' := [some (.ref 2000000), some (.ref 0), some (.ref 46), some (.ref 536), some (.int x4), none, none, none]) (st' := [(.int ((E.2.2 x4.toNatClampNeg) &&& 63))]) (I1 := I) (T1 := T) rfl ?_
    refine ev_jp rfl rfl ?_
    exact hq
def t_W_main_1543 (E : MEnv) (I : II) (T : TT) (Q : QQ) (x4 : Int32) : Prop := ev E 0 13 [some (.ref 2000000), some (.ref 0), some (.ref 46), some (.ref 536), some (.int (x4 + 9)), none, none, none] [] I T Q
theorem s_W_main_1543 {E : MEnv} {I : II} {T : TT} {Q : QQ} {x4 : Int32} (hq : t_W_main_1543 E I T Q x4) : ev E 0 1543 [some (.ref 2000000), some (.ref 0), some (.ref 46), some (.ref 536), some (.int x4), none, none, none] [] I T Q := by
  unfold t_W_main_1543 at hq
  refine ev_seq 2 (ip' := 13) (loc' := [some (.ref 2000000), some (.ref 0), some (.ref 46), some (.ref 536), some (.int (x4 + 9)), none, none, none]) (st' := []) (I1 := I) (T1 := T) rfl ?_
  exact hq
def t_W_main_25 (E : MEnv) (I : II) (T : TT) (Q : QQ) (x4 : Int32) : Prop := (¬ (x4 + 1) < 0 ∧ (x4 + 1).toNatClampNeg < E.2.1) ∧ ((¬ (x4 + 2) < 0 ∧ (x4 + 2).toNatClampNeg < E.2.1) ∧ ((¬ (x4 + 3) < 0 ∧ (x4 + 3).toNatClampNeg < E.2.1) ∧ ((¬ (x4 + 4) < 0 ∧ (x4 + 4).toNatClampNeg < E.2.1) ∧ ((¬ (x4 + 5) < 0 ∧ (x4 + 5).toNatClampNeg < E.2.1) ∧ (ev E 21 0 [some (.ref 0), some (.int (E.2.2 (x4 + 1).toNatClampNeg)), some (.int (E.2.2 (x4 + 2).toNatClampNeg)), some (.int (E.2.2 (x4 + 3).toNatClampNeg)), some (.int (E.2.2 (x4 + 4).toNatClampNeg)), some (.int (E.2.2 (x4 + 5).toNatClampNeg))] [] I T (KI (fun v1 I1 T1 => (¬ (x4 + 1) < 0 ∧ (x4 + 1).toNatClampNeg < E.2.1) ∧ ((¬ (x4 + 2) < 0 ∧ (x4 + 2).toNatClampNeg < E.2.1) ∧ ((¬ (x4 + 3) < 0 ∧ (x4 + 3).toNatClampNeg < E.2.1) ∧ ((¬ (x4 + 4) < 0 ∧ (x4 + 4).toNatClampNeg < E.2.1) ∧ ((¬ (x4 + 5) < 0 ∧ (x4 + 5).toNatClampNeg < E.2.1) ∧ (ev E 23 0 [some (.ref 46), some (.int (E.2.2 (x4 + 1).toNatClampNeg)), some (.int (E.2.2 (x4 + 2).toNatClampNeg)), some (.int (E.2.2 (x4 + 3).toNatClampNeg)), some (.int (E.2.2 (x4 + 4).toNatClampNeg)), some (.int (E.2.2 (x4 + 5).toNatClampNeg)), none, none] [] I1 T1 (KI (fun v2 I2 T2 => (v1 = v2 → (t_W_main_1543 E I2 T2 Q x4)) ∧ (¬ (v1 = v2) → (Q (.inl (some (.int 0))) I2 T2))) (fun _ _ _ => False)))))))) (fun _ _ _ => False)))))))
theorem s_W_main_25 {E : MEnv} {I : II} {T : TT} {Q : QQ} {x4 : Int32} (hq : t_W_main_25 E I T Q x4) : ev E 0 25 [some (.ref 2000000), some (.ref 0), some (.ref 46), some (.ref 536), some (.int x4), none, none, none] [] I T Q := by
  unfold t_W_main_25 at hq
  refine ev_seq 5 (ip' := 30) (loc' := [some (.ref 2000000), some (.ref 0), some (.ref 46), some (.ref 536), some (.int x4), none, none, none]) (st' := [(.int (x4 + 1)), (.ref 2000000), (.ref 0)]) (I1 := I) (T1 := T) rfl ?_
  obtain ⟨hg, hq⟩ := hq
  refine ev_xald rfl hg ?_
  refine ev_seq 4 (ip' := 35) (loc' := [some (.ref 2000000), some (.ref 0), some (.ref 46), some (.ref 536), some (.int x4), none, none, none]) (st' := [(.int (x4 + 2)), (.ref 2000000), (.int (E.2.2 (x4 + 1).toNatClampNeg)), (.ref 0)]) (I1 := I) (T1 := T) rfl ?_
  obtain ⟨hg, hq⟩ := hq
  refine ev_xald rfl hg ?_
  refine ev_seq 4 (ip' := 40) (loc' := [some (.ref 2000000), some (.ref 0), some (.ref 46), some (.ref 536), some (.int x4), none, none, none]) (st' := [(.int (x4 + 3)), (.ref 2000000), (.int (E.2.2 (x4 + 2).toNatClampNeg)), (.int (E.2.2 (x4 + 1).toNatClampNeg)), (.ref 0)]) (I1 := I) (T1 := T) rfl ?_
  obtain ⟨hg, hq⟩ := hq
  refine ev_xald rfl hg ?_
  refine ev_seq 4 (ip' := 45) (loc' := [some (.ref 2000000), some (.ref 0), some (.ref 46), some (.ref 536), some (.int x4), none, none, none]) (st' := [(.int (x4 + 4)), (.ref 2000000), (.int (E.2.2 (x4 + 3).toNatClampNeg)), (.int (E.2.2 (x4 + 2).toNatClampNeg)), (.int (E.2.2 (x4 + 1).toNatClampNeg)), (.ref 0)]) (I1 := I) (T1 := T) rfl ?_
  obtain ⟨hg, hq⟩ := hq
  refine ev_xald rfl hg ?_
  refine ev_seq 4 (ip' := 50) (loc' := [some (.ref 2000000), some (.ref 0), some (.ref 46), some (.ref 536), some (.int x4), none, none, none]) (st' := [(.int (x4 + 5)), (.ref 2000000), (.int (E.2.2 (x4 + 4).toNatClampNeg)), (.int (E.2.2 (x4 + 3).toNatClampNeg)), (.int (E.2.2 (x4 + 2).toNatClampNeg)), (.int (E.2.2 (x4 + 1).toNatClampNeg)), (.ref 0)]) (I1 := I) (T1 := T) rfl ?_
  obtain ⟨hg, hq⟩ := hq
  refine ev_xald rfl hg ?_
  refine ev_callI rfl rfl rfl (fun v1 I1 T1 hq => ?_) (fun x I1 T1 hq => ?_) hq
  · refine ev_seq 5 (ip' := 57) (loc' := [some (.ref 2000000), some (.ref 0), some (.ref 46), some (.ref 536), some (.int x4), none, none, none]) (st' := [(.int (x4 + 1)), (.ref 2000000), (.ref 46), (.int v1)]) (I1 := I1) (T1 := T1) rfl ?_
    obtain ⟨hg, hq⟩ := hq
    refine ev_xald rfl hg ?_
    refine ev_seq 4 (ip' := 62) (loc' := [some (.ref 2000000), some (.ref 0), some (.ref 46), some (.ref 536), some (.int x4), none, none, none]) (st' := [(.int (x4 + 2)), (.ref 2000000), (.int (E.2.2 (x4 + 1).toNatClampNeg)), (.ref 46), (.int v1)]) (I1 := I1) (T1 := T1) rfl ?_
    obtain ⟨hg, hq⟩ := hq
    refine ev_xald rfl hg ?_
    refine ev_seq 4 (ip' := 67) (loc' := [some (.ref 2000000), some (.ref 0), some (.ref 46), some (.ref 536), some (.int x4), none, none, none]) (st' := [(.int (x4 + 3)), (.ref 2000000), (.int (E.2.2 (x4 + 2).toNatClampNeg)), (.int (E.2.2 (x4 + 1).toNatClampNeg)), (.ref 46), (.int v1)]) (I1 := I1) (T1 := T1) rfl ?_
    obtain ⟨hg, hq⟩ := hq
    refine ev_xald rfl hg ?_
    refine ev_seq 4 (ip' := 72) (loc' := [some (.ref 2000000), some (.ref 0), some (.ref 46), some (.ref 536), some (.int x4), none, none, none]) (st' := [(.int (x4 + 4)), (.ref 2000000), (.int (E.2.2 (x4 + 3).toNatClampNeg)), (.int (E.2.2 (x4 + 2).toNatClampNeg)), (.int (E.2.2 (x4 + 1).toNatClampNeg)), (.ref 46), (.int v1)]) (I1 := I1) (T1 := T1) rfl ?_
    obtain ⟨hg, hq⟩ := hq
    refine ev_xald rfl hg ?_
    refine ev_seq 4 (ip' := 77) (loc' := [some (.ref 2000000), some (.ref 0), some (.ref 46), some (.ref 536), some (.int x4), none, none, none]) (st' := [(.int (x4 + 5)), (.ref 2000000), (.int (E.2.2 (x4 + 4).toNatClampNeg)), (.int (E.2.2 (x4 + 3).toNatClampNeg)), (.int (E.2.2 (x4 + 2).toNatClampNeg)), (.int (E.2.2 (x4 + 1).toNatClampNeg)), (.ref 46), (.int v1)]) (I1 := I1) (T1 := T1) rfl ?_
    obtain ⟨hg, hq⟩ := hq
    refine ev_xald rfl hg ?_
    refine ev_callI rfl rfl rfl (fun v2 I2 T2 hq => ?_) (fun x I1 T1 hq => ?_) hq
    · refine ev_br (p := v1 = v2) (a := 1543) (b := 80) (st' := []) inferInstance rfl rfl (fun hb => ?_) (fun hb => ?_)
      · have hq := hq.1 hb
        exact s_W_main_1543 (T := T2) hq
      · have hq := hq.2 hb
        refine ev_seq 1 (ip' := 81) (loc' := [some (.ref 2000000), some (.ref 0), some (.ref 46), some (.ref 536), some (.int x4), none, none, none]) (st' := [(.int 0)]) (I1 := I2) (T1 := T2) rfl ?_
        exact ev_ret rfl rfl hq
    · exact hq.elim
  · exact hq.elim
def t_W_main_116 (E : MEnv) (I : II) (T : TT) (Q : QQ) (x4 : Int32) : Prop := t_W_main_1543 E I T Q x4
theorem s_W_main_116 {E : MEnv} {I : II} {T : TT} {Q : QQ} {x4 : Int32} (hq : t_W_main_116 E I T Q x4) : ev E 0 116 [some (.ref 2000000), some (.ref 0), some (.ref 46), some (.ref 536), some (.int x4), none, none, none] [] I T Q := by
  unfold t_W_main_116 at hq
  refine ev_seq 1 (ip' := 1543) (loc' := [some (.ref 2000000), some (.ref 0), some (.ref 46), some (.ref 536), some (.int x4), none, none, none]) (st' := []) (I1 := I) (T1 := T) rfl ?_
  exact s_W_main_1543 (T := T) hq
def t_W_main_82 (E : MEnv) (I : II) (T : TT) (Q : QQ) (x4 : Int32) : Prop := (¬ (x4 + 1) < 0 ∧ (x4 + 1).toNatClampNeg < E.2.1) ∧ (ev E 24 0 [some (.ref 0), some (.int (E.2.2 (x4 + 1).toNatClampNeg)), some (.ref 536), none] [] I T (KI (fun v1 I1 T1 => (¬ (x4 + 1) < 0 ∧ (x4 + 1).toNatClampNeg < E.2.1) ∧ (ev E 56 0 [some (.ref 46), some (.int (E.2.2 (x4 + 1).toNatClampNeg))] [] I1 T1 (KI (fun v2 I2 T2 => ev E 76 0 [some (.ref 46)] [] I2 T2 (KI (fun v3 I3 T3 => (v3 = v1 → ((v1 = 0 → (((lg_cmp (T3.1 536 0) v2.toInt64) = 0 → (t_W_main_116 E I3 T3 Q x4)) ∧ (¬ ((lg_cmp (T3.1 536 0) v2.toInt64) = 0) → (Q (.inl (some (.int 0))) I3 T3)))) ∧ (¬ (v1 = 0) → (t_W_main_116 E I3 T3 Q x4)))) ∧ (¬ (v3 = v1) → (Q (.inl (some (.int 0))) I3 T3))) (fun _ _ _ => False))) (fun _ _ _ => False)))) (fun _ _ _ => False)))
theorem s_W_main_82 {E : MEnv} {I : II} {T : TT} {Q : QQ} {x4 : Int32} (hq : t_W_main_82 E I T Q x4) : ev E 0 82 [some (.ref 2000000), some (.ref 0), some (.ref 46), some (.ref 536), some (.int x4), none, none, none] [] I T Q := by
  unfold t_W_main_82 at hq
  refine ev_seq 5 (ip' := 87) (loc' := [some (.ref 2000000), some (.ref 0), some (.ref 46), some (.ref 536), some (.int x4), none, none, none]) (st' := [(.int (x4 + 1)), (.ref 2000000), (.ref 0)]) (I1 := I) (T1 := T) rfl ?_
  obtain ⟨hg, hq⟩ := hq
  refine ev_xald rfl hg ?_
  refine ev_seq 1 (ip' := 89) (loc' := [some (.ref 2000000), some (.ref 0), some (.ref 46), some (.ref 536), some (.int x4), none, none, none]) (st' := [(.ref 536), (.int (E.2.2 (x4 + 1).toNatClampNeg)), (.ref 0)]) (I1 := I) (T1 := T) rfl ?_
  refine ev_callI rfl rfl rfl (fun v1 I1 T1 hq => ?_) (fun x I1 T1 hq => ?_) hq
  · refine ev_seq 6 (ip' := 96) (loc' := [some (.ref 2000000), some (.ref 0), some (.ref 46), some (.ref 536), some (.int x4), some (.int v1), none, none]) (st' := [(.int (x4 + 1)), (.ref 2000000), (.ref 46)]) (I1 := I1) (T1 := T1) rfl ?_
    obtain ⟨hg, hq⟩ := hq
    refine ev_xald rfl hg ?_
    refine ev_callI rfl rfl rfl (fun v2 I2 T2 hq => ?_) (fun x I1 T1 hq => ?_) hq
    · refine ev_seq 2 (ip' := 100) (loc' := [some (.ref 2000000), some (.ref 0), some (.ref 46), some (.ref 536), some (.int x4), some (.int v1), some (.int v2), none]) (st' := [(.ref 46)]) (I1 := I2) (T1 := T2) rfl ?_
      refine ev_callI rfl rfl rfl (fun v3 I3 T3 hq => ?_) (fun x I1 T1 hq => ?_) hq
      · refine ev_seq 1 (ip' := 102) (loc' := [some (.ref 2000000), some (.ref 0), some (.ref 46), some (.ref 536), some (.int x4), some (.int v1), some (.int v2), none]) (st' := [(.int v1), (.int v3)]) (I1 := I3) (T1 := T3) rfl ?_
        refine ev_br (p := v3 = v1) (a := 105) (b := 103) (st' := []) inferInstance rfl rfl (fun hb => ?_) (fun hb => ?_)
        · have hq := hq.1 hb
          refine ev_seq 1 (ip' := 106) (loc' := [some (.ref 2000000), some (.ref 0), some (.ref 46), some (.ref 536), some (.int x4), some (.int v1), some (.int v2), none]) (st' := [(.int v1)]) (I1 := I3) (T1 := T3) rfl ?_
          refine ev_br (p := v1 = 0) (a := 107) (b := 116) (st' := []) inferInstance rfl rfl (fun hb => ?_) (fun hb => ?_)
          · have hq := hq.1 hb
            refine ev_seq 6 (ip' := 113) (loc' := [some (.ref 2000000), some (.ref 0), some (.ref 46), some (.ref 536), some (.int x4), some (.int v1), some (.int v2), none]) (st' := [(.int (lg_cmp (T3.1 536 0) v2.toInt64))]) (I1 := I3) (T1 := T3) rfl ?_
            refine ev_br (p := (lg_cmp (T3.1 536 0) v2.toInt64) = 0) (a := 116) (b := 114) (st' := []) inferInstance rfl rfl (fun hb => ?_) (fun hb => ?_)
            · have hq := hq.1 hb
              refine ev_fg [true, true, true, true, true, false, false, true] (loc' := [some (.ref 2000000), some (.ref 0), some (.ref 46), some (.ref 536), some (.int x4), none, none, none]) rfl ?_
              exact s_W_main_116 (T := T3) hq
            · have hq := hq.2 hb
              refine ev_seq 1 (ip' := 115) (loc' := [some (.ref 2000000), some (.ref 0), some (.ref 46), some (.ref 536), some (.int x4), some (.int v1), some (.int v2), none]) (st' := [(.int 0)]) (I1 := I3) (T1 := T3) rfl ?_
              exact ev_ret rfl rfl hq
          · have hq := hq.2 hb
            refine ev_fg [true, true, true, true, true, false, false, true] (loc' := [some (.ref 2000000), some (.ref 0), some (.ref 46), some (.ref 536), some (.int x4), none, none, none]) rfl ?_
            exact s_W_main_116 (T := T3) hq
        · have hq := hq.2 hb
          refine ev_seq 1 (ip' := 104) (loc' := [some (.ref 2000000), some (.ref 0), some (.ref 46), some (.ref 536), some (.int x4), some (.int v1), some (.int v2), none]) (st' := [(.int 0)]) (I1 := I3) (T1 := T3) rfl ?_
          exact ev_ret rfl rfl hq
      · exact hq.elim
    · exact hq.elim
  · exact hq.elim
def t_W_main_151 (E : MEnv) (I : II) (T : TT) (Q : QQ) (x4 : Int32) : Prop := t_W_main_1543 E I T Q x4
theorem s_W_main_151 {E : MEnv} {I : II} {T : TT} {Q : QQ} {x4 : Int32} (hq : t_W_main_151 E I T Q x4) : ev E 0 151 [some (.ref 2000000), some (.ref 0), some (.ref 46), some (.ref 536), some (.int x4), none, none, none] [] I T Q := by
  unfold t_W_main_151 at hq
  refine ev_seq 1 (ip' := 1543) (loc' := [some (.ref 2000000), some (.ref 0), some (.ref 46), some (.ref 536), some (.int x4), none, none, none]) (st' := []) (I1 := I) (T1 := T) rfl ?_
  exact s_W_main_1543 (T := T) hq
def t_W_main_117 (E : MEnv) (I : II) (T : TT) (Q : QQ) (x4 : Int32) : Prop := (¬ (x4 + 1) < 0 ∧ (x4 + 1).toNatClampNeg < E.2.1) ∧ (ev E 77 0 [some (.ref 0), some (.int (E.2.2 (x4 + 1).toNatClampNeg)), some (.ref 536), none] [] I T (KI (fun v1 I1 T1 => (¬ (x4 + 1) < 0 ∧ (x4 + 1).toNatClampNeg < E.2.1) ∧ (ev E 85 0 [some (.ref 46), some (.int (E.2.2 (x4 + 1).toNatClampNeg))] [] I1 T1 (KI (fun v2 I2 T2 => ev E 76 0 [some (.ref 46)] [] I2 T2 (KI (fun v3 I3 T3 => (v3 = v1 → ((v1 = 0 → (((lg_cmp (T3.1 536 0) v2.toInt64) = 0 → (t_W_main_151 E I3 T3 Q x4)) ∧ (¬ ((lg_cmp (T3.1 536 0) v2.toInt64) = 0) → (Q (.inl (some (.int 0))) I3 T3)))) ∧ (¬ (v1 = 0) → (t_W_main_151 E I3 T3 Q x4)))) ∧ (¬ (v3 = v1) → (Q (.inl (some (.int 0))) I3 T3))) (fun _ _ _ => False))) (fun _ _ _ => False)))) (fun _ _ _ => False)))
theorem s_W_main_117 {E : MEnv} {I : II} {T : TT} {Q : QQ} {x4 : Int32} (hq : t_W_main_117 E I T Q x4) : ev E 0 117 [some (.ref 2000000), some (.ref 0), some (.ref 46), some (.ref 536), some (.int x4), none, none, none] [] I T Q := by
  unfold t_W_main_117 at hq
  refine ev_seq 5 (ip' := 122) (loc' := [some (.ref 2000000), some (.ref 0), some (.ref 46), some (.ref 536), some (.int x4), none, none, none]) (st' := [(.int (x4 + 1)), (.ref 2000000), (.ref 0)]) (I1 := I) (T1 := T) rfl ?_
  obtain ⟨hg, hq⟩ := hq
  refine ev_xald rfl hg ?_
  refine ev_seq 1 (ip' := 124) (loc' := [some (.ref 2000000), some (.ref 0), some (.ref 46), some (.ref 536), some (.int x4), none, none, none]) (st' := [(.ref 536), (.int (E.2.2 (x4 + 1).toNatClampNeg)), (.ref 0)]) (I1 := I) (T1 := T) rfl ?_
  refine ev_callI rfl rfl rfl (fun v1 I1 T1 hq => ?_) (fun x I1 T1 hq => ?_) hq
  · refine ev_seq 6 (ip' := 131) (loc' := [some (.ref 2000000), some (.ref 0), some (.ref 46), some (.ref 536), some (.int x4), some (.int v1), none, none]) (st' := [(.int (x4 + 1)), (.ref 2000000), (.ref 46)]) (I1 := I1) (T1 := T1) rfl ?_
    obtain ⟨hg, hq⟩ := hq
    refine ev_xald rfl hg ?_
    refine ev_callI rfl rfl rfl (fun v2 I2 T2 hq => ?_) (fun x I1 T1 hq => ?_) hq
    · refine ev_seq 2 (ip' := 135) (loc' := [some (.ref 2000000), some (.ref 0), some (.ref 46), some (.ref 536), some (.int x4), some (.int v1), some (.int v2), none]) (st' := [(.ref 46)]) (I1 := I2) (T1 := T2) rfl ?_
      refine ev_callI rfl rfl rfl (fun v3 I3 T3 hq => ?_) (fun x I1 T1 hq => ?_) hq
      · refine ev_seq 1 (ip' := 137) (loc' := [some (.ref 2000000), some (.ref 0), some (.ref 46), some (.ref 536), some (.int x4), some (.int v1), some (.int v2), none]) (st' := [(.int v1), (.int v3)]) (I1 := I3) (T1 := T3) rfl ?_
        refine ev_br (p := v3 = v1) (a := 140) (b := 138) (st' := []) inferInstance rfl rfl (fun hb => ?_) (fun hb => ?_)
        · have hq := hq.1 hb
          refine ev_seq 1 (ip' := 141) (loc' := [some (.ref 2000000), some (.ref 0), some (.ref 46), some (.ref 536), some (.int x4), some (.int v1), some (.int v2), none]) (st' := [(.int v1)]) (I1 := I3) (T1 := T3) rfl ?_
          refine ev_br (p := v1 = 0) (a := 142) (b := 151) (st' := []) inferInstance rfl rfl (fun hb => ?_) (fun hb => ?_)
          · have hq := hq.1 hb
            refine ev_seq 6 (ip' := 148) (loc' := [some (.ref 2000000), some (.ref 0), some (.ref 46), some (.ref 536), some (.int x4), some (.int v1), some (.int v2), none]) (st' := [(.int (lg_cmp (T3.1 536 0) v2.toInt64))]) (I1 := I3) (T1 := T3) rfl ?_
            refine ev_br (p := (lg_cmp (T3.1 536 0) v2.toInt64) = 0) (a := 151) (b := 149) (st' := []) inferInstance rfl rfl (fun hb => ?_) (fun hb => ?_)
            · have hq := hq.1 hb
              refine ev_fg [true, true, true, true, true, false, false, true] (loc' := [some (.ref 2000000), some (.ref 0), some (.ref 46), some (.ref 536), some (.int x4), none, none, none]) rfl ?_
              exact s_W_main_151 (T := T3) hq
            · have hq := hq.2 hb
              refine ev_seq 1 (ip' := 150) (loc' := [some (.ref 2000000), some (.ref 0), some (.ref 46), some (.ref 536), some (.int x4), some (.int v1), some (.int v2), none]) (st' := [(.int 0)]) (I1 := I3) (T1 := T3) rfl ?_
              exact ev_ret rfl rfl hq
          · have hq := hq.2 hb
            refine ev_fg [true, true, true, true, true, false, false, true] (loc' := [some (.ref 2000000), some (.ref 0), some (.ref 46), some (.ref 536), some (.int x4), none, none, none]) rfl ?_
            exact s_W_main_151 (T := T3) hq
        · have hq := hq.2 hb
          refine ev_seq 1 (ip' := 139) (loc' := [some (.ref 2000000), some (.ref 0), some (.ref 46), some (.ref 536), some (.int x4), some (.int v1), some (.int v2), none]) (st' := [(.int 0)]) (I1 := I3) (T1 := T3) rfl ?_
          exact ev_ret rfl rfl hq
      · exact hq.elim
    · exact hq.elim
  · exact hq.elim
def t_W_main_186 (E : MEnv) (I : II) (T : TT) (Q : QQ) (x4 : Int32) : Prop := t_W_main_1543 E I T Q x4
theorem s_W_main_186 {E : MEnv} {I : II} {T : TT} {Q : QQ} {x4 : Int32} (hq : t_W_main_186 E I T Q x4) : ev E 0 186 [some (.ref 2000000), some (.ref 0), some (.ref 46), some (.ref 536), some (.int x4), none, none, none] [] I T Q := by
  unfold t_W_main_186 at hq
  refine ev_seq 1 (ip' := 1543) (loc' := [some (.ref 2000000), some (.ref 0), some (.ref 46), some (.ref 536), some (.int x4), none, none, none]) (st' := []) (I1 := I) (T1 := T) rfl ?_
  exact s_W_main_1543 (T := T) hq
def t_W_main_152 (E : MEnv) (I : II) (T : TT) (Q : QQ) (x4 : Int32) : Prop := (¬ (x4 + 1) < 0 ∧ (x4 + 1).toNatClampNeg < E.2.1) ∧ (ev E 94 0 [some (.ref 0), some (.int (E.2.2 (x4 + 1).toNatClampNeg)), some (.ref 536), none] [] I T (KI (fun v1 I1 T1 => (¬ (x4 + 1) < 0 ∧ (x4 + 1).toNatClampNeg < E.2.1) ∧ (ev E 144 0 [some (.ref 46), some (.int (E.2.2 (x4 + 1).toNatClampNeg))] [] I1 T1 (KI (fun v2 I2 T2 => ev E 76 0 [some (.ref 46)] [] I2 T2 (KI (fun v3 I3 T3 => (v3 = v1 → ((v1 = 0 → (((lg_cmp (T3.1 536 0) v2.toInt64) = 0 → (t_W_main_186 E I3 T3 Q x4)) ∧ (¬ ((lg_cmp (T3.1 536 0) v2.toInt64) = 0) → (Q (.inl (some (.int 0))) I3 T3)))) ∧ (¬ (v1 = 0) → (t_W_main_186 E I3 T3 Q x4)))) ∧ (¬ (v3 = v1) → (Q (.inl (some (.int 0))) I3 T3))) (fun _ _ _ => False))) (fun _ _ _ => False)))) (fun _ _ _ => False)))
theorem s_W_main_152 {E : MEnv} {I : II} {T : TT} {Q : QQ} {x4 : Int32} (hq : t_W_main_152 E I T Q x4) : ev E 0 152 [some (.ref 2000000), some (.ref 0), some (.ref 46), some (.ref 536), some (.int x4), none, none, none] [] I T Q := by
  unfold t_W_main_152 at hq
  refine ev_seq 5 (ip' := 157) (loc' := [some (.ref 2000000), some (.ref 0), some (.ref 46), some (.ref 536), some (.int x4), none, none, none]) (st' := [(.int (x4 + 1)), (.ref 2000000), (.ref 0)]) (I1 := I) (T1 := T) rfl ?_
  obtain ⟨hg, hq⟩ := hq
  refine ev_xald rfl hg ?_
  refine ev_seq 1 (ip' := 159) (loc' := [some (.ref 2000000), some (.ref 0), some (.ref 46), some (.ref 536), some (.int x4), none, none, none]) (st' := [(.ref 536), (.int (E.2.2 (x4 + 1).toNatClampNeg)), (.ref 0)]) (I1 := I) (T1 := T) rfl ?_
  refine ev_callI rfl rfl rfl (fun v1 I1 T1 hq => ?_) (fun x I1 T1 hq => ?_) hq
  · refine ev_seq 6 (ip' := 166) (loc' := [some (.ref 2000000), some (.ref 0), some (.ref 46), some (.ref 536), some (.int x4), some (.int v1), none, none]) (st' := [(.int (x4 + 1)), (.ref 2000000), (.ref 46)]) (I1 := I1) (T1 := T1) rfl ?_
    obtain ⟨hg, hq⟩ := hq
    refine ev_xald rfl hg ?_
    refine ev_callI rfl rfl rfl (fun v2 I2 T2 hq => ?_) (fun x I1 T1 hq => ?_) hq
    · refine ev_seq 2 (ip' := 170) (loc' := [some (.ref 2000000), some (.ref 0), some (.ref 46), some (.ref 536), some (.int x4), some (.int v1), some (.int v2), none]) (st' := [(.ref 46)]) (I1 := I2) (T1 := T2) rfl ?_
      refine ev_callI rfl rfl rfl (fun v3 I3 T3 hq => ?_) (fun x I1 T1 hq => ?_) hq
      · refine ev_seq 1 (ip' := 172) (loc' := [some (.ref 2000000), some (.ref 0), some (.ref 46), some (.ref 536), some (.int x4), some (.int v1), some (.int v2), none]) (st' := [(.int v1), (.int v3)]) (I1 := I3) (T1 := T3) rfl ?_
        refine ev_br (p := v3 = v1) (a := 175) (b := 173) (st' := []) inferInstance rfl rfl (fun hb => ?_) (fun hb => ?_)
        · have hq := hq.1 hb
          refine ev_seq 1 (ip' := 176) (loc' := [some (.ref 2000000), some (.ref 0), some (.ref 46), some (.ref 536), some (.int x4), some (.int v1), some (.int v2), none]) (st' := [(.int v1)]) (I1 := I3) (T1 := T3) rfl ?_
          refine ev_br (p := v1 = 0) (a := 177) (b := 186) (st' := []) inferInstance rfl rfl (fun hb => ?_) (fun hb => ?_)
          · have hq := hq.1 hb
            refine ev_seq 6 (ip' := 183) (loc' := [some (.ref 2000000), some (.ref 0), some (.ref 46), some (.ref 536), some (.int x4), some (.int v1), some (.int v2), none]) (st' := [(.int (lg_cmp (T3.1 536 0) v2.toInt64))]) (I1 := I3) (T1 := T3) rfl ?_
            refine ev_br (p := (lg_cmp (T3.1 536 0) v2.toInt64) = 0) (a := 186) (b := 184) (st' := []) inferInstance rfl rfl (fun hb => ?_) (fun hb => ?_)
            · have hq := hq.1 hb
              refine ev_fg [true, true, true, true, true, false, false, true] (loc' := [some (.ref 2000000), some (.ref 0), some (.ref 46), some (.ref 536), some (.int x4), none, none, none]) rfl ?_
              exact s_W_main_186 (T := T3) hq
            · have hq := hq.2 hb
              refine ev_seq 1 (ip' := 185) (loc' := [some (.ref 2000000), some (.ref 0), some (.ref 46), some (.ref 536), some (.int x4), some (.int v1), some (.int v2), none]) (st' := [(.int 0)]) (I1 := I3) (T1 := T3) rfl ?_
              exact ev_ret rfl rfl hq
          · have hq := hq.2 hb
            refine ev_fg [true, true, true, true, true, false, false, true] (loc' := [some (.ref 2000000), some (.ref 0), some (.ref 46), some (.ref 536), some (.int x4), none, none, none]) rfl ?_
            exact s_W_main_186 (T := T3) hq
        · have hq := hq.2 hb
          refine ev_seq 1 (ip' := 174) (loc' := [some (.ref 2000000), some (.ref 0), some (.ref 46), some (.ref 536), some (.int x4), some (.int v1), some (.int v2), none]) (st' := [(.int 0)]) (I1 := I3) (T1 := T3) rfl ?_
          exact ev_ret rfl rfl hq
      · exact hq.elim
    · exact hq.elim
  · exact hq.elim
def t_W_main_221 (E : MEnv) (I : II) (T : TT) (Q : QQ) (x4 : Int32) : Prop := t_W_main_1543 E I T Q x4
theorem s_W_main_221 {E : MEnv} {I : II} {T : TT} {Q : QQ} {x4 : Int32} (hq : t_W_main_221 E I T Q x4) : ev E 0 221 [some (.ref 2000000), some (.ref 0), some (.ref 46), some (.ref 536), some (.int x4), none, none, none] [] I T Q := by
  unfold t_W_main_221 at hq
  refine ev_seq 1 (ip' := 1543) (loc' := [some (.ref 2000000), some (.ref 0), some (.ref 46), some (.ref 536), some (.int x4), none, none, none]) (st' := []) (I1 := I) (T1 := T) rfl ?_
  exact s_W_main_1543 (T := T) hq
def t_W_main_187 (E : MEnv) (I : II) (T : TT) (Q : QQ) (x4 : Int32) : Prop := (¬ (x4 + 1) < 0 ∧ (x4 + 1).toNatClampNeg < E.2.1) ∧ (ev E 169 0 [some (.ref 0), some (.int (E.2.2 (x4 + 1).toNatClampNeg)), some (.ref 536), none] [] I T (KI (fun v1 I1 T1 => (¬ (x4 + 1) < 0 ∧ (x4 + 1).toNatClampNeg < E.2.1) ∧ (ev E 173 0 [some (.ref 46), some (.int (E.2.2 (x4 + 1).toNatClampNeg)), none, none, none, none, none] [] I1 T1 (KI (fun v2 I2 T2 => ev E 76 0 [some (.ref 46)] [] I2 T2 (KI (fun v3 I3 T3 => (v3 = v1 → ((v1 = 0 → (((lg_cmp (T3.1 536 0) v2.toInt64) = 0 → (t_W_main_221 E I3 T3 Q x4)) ∧ (¬ ((lg_cmp (T3.1 536 0) v2.toInt64) = 0) → (Q (.inl (some (.int 0))) I3 T3)))) ∧ (¬ (v1 = 0) → (t_W_main_221 E I3 T3 Q x4)))) ∧ (¬ (v3 = v1) → (Q (.inl (some (.int 0))) I3 T3))) (fun _ _ _ => False))) (fun _ _ _ => False)))) (fun _ _ _ => False)))
theorem s_W_main_187 {E : MEnv} {I : II} {T : TT} {Q : QQ} {x4 : Int32} (hq : t_W_main_187 E I T Q x4) : ev E 0 187 [some (.ref 2000000), some (.ref 0), some (.ref 46), some (.ref 536), some (.int x4), none, none, none] [] I T Q := by
  unfold t_W_main_187 at hq
  refine ev_seq 5 (ip' := 192) (loc' := [some (.ref 2000000), some (.ref 0), some (.ref 46), some (.ref 536), some (.int x4), none, none, none]) (st' := [(.int (x4 + 1)), (.ref 2000000), (.ref 0)]) (I1 := I) (T1 := T) rfl ?_
  obtain ⟨hg, hq⟩ := hq
  refine ev_xald rfl hg ?_
  refine ev_seq 1 (ip' := 194) (loc' := [some (.ref 2000000), some (.ref 0), some (.ref 46), some (.ref 536), some (.int x4), none, none, none]) (st' := [(.ref 536), (.int (E.2.2 (x4 + 1).toNatClampNeg)), (.ref 0)]) (I1 := I) (T1 := T) rfl ?_
  refine ev_callI rfl rfl rfl (fun v1 I1 T1 hq => ?_) (fun x I1 T1 hq => ?_) hq
  · refine ev_seq 6 (ip' := 201) (loc' := [some (.ref 2000000), some (.ref 0), some (.ref 46), some (.ref 536), some (.int x4), some (.int v1), none, none]) (st' := [(.int (x4 + 1)), (.ref 2000000), (.ref 46)]) (I1 := I1) (T1 := T1) rfl ?_
    obtain ⟨hg, hq⟩ := hq
    refine ev_xald rfl hg ?_
    refine ev_callI rfl rfl rfl (fun v2 I2 T2 hq => ?_) (fun x I1 T1 hq => ?_) hq
    · refine ev_seq 2 (ip' := 205) (loc' := [some (.ref 2000000), some (.ref 0), some (.ref 46), some (.ref 536), some (.int x4), some (.int v1), some (.int v2), none]) (st' := [(.ref 46)]) (I1 := I2) (T1 := T2) rfl ?_
      refine ev_callI rfl rfl rfl (fun v3 I3 T3 hq => ?_) (fun x I1 T1 hq => ?_) hq
      · refine ev_seq 1 (ip' := 207) (loc' := [some (.ref 2000000), some (.ref 0), some (.ref 46), some (.ref 536), some (.int x4), some (.int v1), some (.int v2), none]) (st' := [(.int v1), (.int v3)]) (I1 := I3) (T1 := T3) rfl ?_
        refine ev_br (p := v3 = v1) (a := 210) (b := 208) (st' := []) inferInstance rfl rfl (fun hb => ?_) (fun hb => ?_)
        · have hq := hq.1 hb
          refine ev_seq 1 (ip' := 211) (loc' := [some (.ref 2000000), some (.ref 0), some (.ref 46), some (.ref 536), some (.int x4), some (.int v1), some (.int v2), none]) (st' := [(.int v1)]) (I1 := I3) (T1 := T3) rfl ?_
          refine ev_br (p := v1 = 0) (a := 212) (b := 221) (st' := []) inferInstance rfl rfl (fun hb => ?_) (fun hb => ?_)
          · have hq := hq.1 hb
            refine ev_seq 6 (ip' := 218) (loc' := [some (.ref 2000000), some (.ref 0), some (.ref 46), some (.ref 536), some (.int x4), some (.int v1), some (.int v2), none]) (st' := [(.int (lg_cmp (T3.1 536 0) v2.toInt64))]) (I1 := I3) (T1 := T3) rfl ?_
            refine ev_br (p := (lg_cmp (T3.1 536 0) v2.toInt64) = 0) (a := 221) (b := 219) (st' := []) inferInstance rfl rfl (fun hb => ?_) (fun hb => ?_)
            · have hq := hq.1 hb
              refine ev_fg [true, true, true, true, true, false, false, true] (loc' := [some (.ref 2000000), some (.ref 0), some (.ref 46), some (.ref 536), some (.int x4), none, none, none]) rfl ?_
              exact s_W_main_221 (T := T3) hq
            · have hq := hq.2 hb
              refine ev_seq 1 (ip' := 220) (loc' := [some (.ref 2000000), some (.ref 0), some (.ref 46), some (.ref 536), some (.int x4), some (.int v1), some (.int v2), none]) (st' := [(.int 0)]) (I1 := I3) (T1 := T3) rfl ?_
              exact ev_ret rfl rfl hq
          · have hq := hq.2 hb
            refine ev_fg [true, true, true, true, true, false, false, true] (loc' := [some (.ref 2000000), some (.ref 0), some (.ref 46), some (.ref 536), some (.int x4), none, none, none]) rfl ?_
            exact s_W_main_221 (T := T3) hq
        · have hq := hq.2 hb
          refine ev_seq 1 (ip' := 209) (loc' := [some (.ref 2000000), some (.ref 0), some (.ref 46), some (.ref 536), some (.int x4), some (.int v1), some (.int v2), none]) (st' := [(.int 0)]) (I1 := I3) (T1 := T3) rfl ?_
          exact ev_ret rfl rfl hq
      · exact hq.elim
    · exact hq.elim
  · exact hq.elim
def t_W_main_222 (E : MEnv) (I : II) (T : TT) (Q : QQ) (x4 : Int32) : Prop := ev E 174 0 [some (.ref 0)] [] I T (KI (fun v1 I1 T1 => ev E 175 0 [some (.ref 46)] [] I1 T1 (KI (fun v2 I2 T2 => (v1 = v2 → (t_W_main_1543 E I2 T2 Q x4)) ∧ (¬ (v1 = v2) → (Q (.inl (some (.int 0))) I2 T2))) (fun _ _ _ => False))) (fun _ _ _ => False))
theorem s_W_main_222 {E : MEnv} {I : II} {T : TT} {Q : QQ} {x4 : Int32} (hq : t_W_main_222 E I T Q x4) : ev E 0 222 [some (.ref 2000000), some (.ref 0), some (.ref 46), some (.ref 536), some (.int x4), none, none, none] [] I T Q := by
  unfold t_W_main_222 at hq
  refine ev_seq 1 (ip' := 223) (loc' := [some (.ref 2000000), some (.ref 0), some (.ref 46), some (.ref 536), some (.int x4), none, none, none]) (st' := [(.ref 0)]) (I1 := I) (T1 := T) rfl ?_
  refine ev_callI rfl rfl rfl (fun v1 I1 T1 hq => ?_) (fun x I1 T1 hq => ?_) hq
  · refine ev_seq 1 (ip' := 225) (loc' := [some (.ref 2000000), some (.ref 0), some (.ref 46), some (.ref 536), some (.int x4), none, none, none]) (st' := [(.ref 46), (.int v1)]) (I1 := I1) (T1 := T1) rfl ?_
    refine ev_callI rfl rfl rfl (fun v2 I2 T2 hq => ?_) (fun x I1 T1 hq => ?_) hq
    · refine ev_br (p := v1 = v2) (a := 1543) (b := 227) (st' := []) inferInstance rfl rfl (fun hb => ?_) (fun hb => ?_)
      · have hq := hq.1 hb
        exact s_W_main_1543 (T := T2) hq
      · have hq := hq.2 hb
        refine ev_seq 1 (ip' := 228) (loc' := [some (.ref 2000000), some (.ref 0), some (.ref 46), some (.ref 536), some (.int x4), none, none, none]) (st' := [(.int 0)]) (I1 := I2) (T1 := T2) rfl ?_
        exact ev_ret rfl rfl hq
    · exact hq.elim
  · exact hq.elim
def t_W_main_229 (E : MEnv) (I : II) (T : TT) (Q : QQ) (x4 : Int32) : Prop := ev E 176 0 [some (.ref 0)] [] I T (KI (fun v1 I1 T1 => ev E 179 0 [some (.ref 46)] [] I1 T1 (KI (fun v2 I2 T2 => (v1 = v2 → (t_W_main_1543 E I2 T2 Q x4)) ∧ (¬ (v1 = v2) → (Q (.inl (some (.int 0))) I2 T2))) (fun _ _ _ => False))) (fun _ _ _ => False))
theorem s_W_main_229 {E : MEnv} {I : II} {T : TT} {Q : QQ} {x4 : Int32} (hq : t_W_main_229 E I T Q x4) : ev E 0 229 [some (.ref 2000000), some (.ref 0), some (.ref 46), some (.ref 536), some (.int x4), none, none, none] [] I T Q := by
  unfold t_W_main_229 at hq
  refine ev_seq 1 (ip' := 230) (loc' := [some (.ref 2000000), some (.ref 0), some (.ref 46), some (.ref 536), some (.int x4), none, none, none]) (st' := [(.ref 0)]) (I1 := I) (T1 := T) rfl ?_
  refine ev_callI rfl rfl rfl (fun v1 I1 T1 hq => ?_) (fun x I1 T1 hq => ?_) hq
  · refine ev_seq 1 (ip' := 232) (loc' := [some (.ref 2000000), some (.ref 0), some (.ref 46), some (.ref 536), some (.int x4), none, none, none]) (st' := [(.ref 46), (.int v1)]) (I1 := I1) (T1 := T1) rfl ?_
    refine ev_callI rfl rfl rfl (fun v2 I2 T2 hq => ?_) (fun x I1 T1 hq => ?_) hq
    · refine ev_br (p := v1 = v2) (a := 1543) (b := 234) (st' := []) inferInstance rfl rfl (fun hb => ?_) (fun hb => ?_)
      · have hq := hq.1 hb
        exact s_W_main_1543 (T := T2) hq
      · have hq := hq.2 hb
        refine ev_seq 1 (ip' := 235) (loc' := [some (.ref 2000000), some (.ref 0), some (.ref 46), some (.ref 536), some (.int x4), none, none, none]) (st' := [(.int 0)]) (I1 := I2) (T1 := T2) rfl ?_
        exact ev_ret rfl rfl hq
    · exact hq.elim
  · exact hq.elim
def t_W_main_270 (E : MEnv) (I : II) (T : TT) (Q : QQ) (x4 : Int32) : Prop := t_W_main_1543 E I T Q x4
theorem s_W_main_270 {E : MEnv} {I : II} {T : TT} {Q : QQ} {x4 : Int32} (hq : t_W_main_270 E I T Q x4) : ev E 0 270 [some (.ref 2000000), some (.ref 0), some (.ref 46), some (.ref 536), some (.int x4), none, none, none] [] I T Q := by
  unfold t_W_main_270 at hq
  refine ev_seq 1 (ip' := 1543) (loc' := [some (.ref 2000000), some (.ref 0), some (.ref 46), some (.ref 536), some (.int x4), none, none, none]) (st' := []) (I1 := I) (T1 := T) rfl ?_
  exact s_W_main_1543 (T := T) hq
def t_W_main_236 (E : MEnv) (I : II) (T : TT) (Q : QQ) (x4 : Int32) : Prop := (¬ (x4 + 1) < 0 ∧ (x4 + 1).toNatClampNeg < E.2.1) ∧ (ev E 180 0 [some (.ref 0), some (.int (E.2.2 (x4 + 1).toNatClampNeg)), some (.ref 536), none] [] I T (KI (fun v1 I1 T1 => (¬ (x4 + 1) < 0 ∧ (x4 + 1).toNatClampNeg < E.2.1) ∧ (ev E 185 0 [some (.ref 46), some (.int (E.2.2 (x4 + 1).toNatClampNeg))] [] I1 T1 (KI (fun v2 I2 T2 => ev E 76 0 [some (.ref 46)] [] I2 T2 (KI (fun v3 I3 T3 => (v3 = v1 → ((v1 = 0 → (((lg_cmp (T3.1 536 0) v2.toInt64) = 0 → (t_W_main_270 E I3 T3 Q x4)) ∧ (¬ ((lg_cmp (T3.1 536 0) v2.toInt64) = 0) → (Q (.inl (some (.int 0))) I3 T3)))) ∧ (¬ (v1 = 0) → (t_W_main_270 E I3 T3 Q x4)))) ∧ (¬ (v3 = v1) → (Q (.inl (some (.int 0))) I3 T3))) (fun _ _ _ => False))) (fun _ _ _ => False)))) (fun _ _ _ => False)))
theorem s_W_main_236 {E : MEnv} {I : II} {T : TT} {Q : QQ} {x4 : Int32} (hq : t_W_main_236 E I T Q x4) : ev E 0 236 [some (.ref 2000000), some (.ref 0), some (.ref 46), some (.ref 536), some (.int x4), none, none, none] [] I T Q := by
  unfold t_W_main_236 at hq
  refine ev_seq 5 (ip' := 241) (loc' := [some (.ref 2000000), some (.ref 0), some (.ref 46), some (.ref 536), some (.int x4), none, none, none]) (st' := [(.int (x4 + 1)), (.ref 2000000), (.ref 0)]) (I1 := I) (T1 := T) rfl ?_
  obtain ⟨hg, hq⟩ := hq
  refine ev_xald rfl hg ?_
  refine ev_seq 1 (ip' := 243) (loc' := [some (.ref 2000000), some (.ref 0), some (.ref 46), some (.ref 536), some (.int x4), none, none, none]) (st' := [(.ref 536), (.int (E.2.2 (x4 + 1).toNatClampNeg)), (.ref 0)]) (I1 := I) (T1 := T) rfl ?_
  refine ev_callI rfl rfl rfl (fun v1 I1 T1 hq => ?_) (fun x I1 T1 hq => ?_) hq
  · refine ev_seq 6 (ip' := 250) (loc' := [some (.ref 2000000), some (.ref 0), some (.ref 46), some (.ref 536), some (.int x4), some (.int v1), none, none]) (st' := [(.int (x4 + 1)), (.ref 2000000), (.ref 46)]) (I1 := I1) (T1 := T1) rfl ?_
    obtain ⟨hg, hq⟩ := hq
    refine ev_xald rfl hg ?_
    refine ev_callI rfl rfl rfl (fun v2 I2 T2 hq => ?_) (fun x I1 T1 hq => ?_) hq
    · refine ev_seq 2 (ip' := 254) (loc' := [some (.ref 2000000), some (.ref 0), some (.ref 46), some (.ref 536), some (.int x4), some (.int v1), some (.int v2), none]) (st' := [(.ref 46)]) (I1 := I2) (T1 := T2) rfl ?_
      refine ev_callI rfl rfl rfl (fun v3 I3 T3 hq => ?_) (fun x I1 T1 hq => ?_) hq
      · refine ev_seq 1 (ip' := 256) (loc' := [some (.ref 2000000), some (.ref 0), some (.ref 46), some (.ref 536), some (.int x4), some (.int v1), some (.int v2), none]) (st' := [(.int v1), (.int v3)]) (I1 := I3) (T1 := T3) rfl ?_
        refine ev_br (p := v3 = v1) (a := 259) (b := 257) (st' := []) inferInstance rfl rfl (fun hb => ?_) (fun hb => ?_)
        · have hq := hq.1 hb
          refine ev_seq 1 (ip' := 260) (loc' := [some (.ref 2000000), some (.ref 0), some (.ref 46), some (.ref 536), some (.int x4), some (.int v1), some (.int v2), none]) (st' := [(.int v1)]) (I1 := I3) (T1 := T3) rfl ?_
          refine ev_br (p := v1 = 0) (a := 261) (b := 270) (st' := []) inferInstance rfl rfl (fun hb => ?_) (fun hb => ?_)
          · have hq := hq.1 hb
            refine ev_seq 6 (ip' := 267) (loc' := [some (.ref 2000000), some (.ref 0), some (.ref 46), some (.ref 536), some (.int x4), some (.int v1), some (.int v2), none]) (st' := [(.int (lg_cmp (T3.1 536 0) v2.toInt64))]) (I1 := I3) (T1 := T3) rfl ?_
            refine ev_br (p := (lg_cmp (T3.1 536 0) v2.toInt64) = 0) (a := 270) (b := 268) (st' := []) inferInstance rfl rfl (fun hb => ?_) (fun hb => ?_)
            · have hq := hq.1 hb
              refine ev_fg [true, true, true, true, true, false, false, true] (loc' := [some (.ref 2000000), some (.ref 0), some (.ref 46), some (.ref 536), some (.int x4), none, none, none]) rfl ?_
              exact s_W_main_270 (T := T3) hq
            · have hq := hq.2 hb
              refine ev_seq 1 (ip' := 269) (loc' := [some (.ref 2000000), some (.ref 0), some (.ref 46), some (.ref 536), some (.int x4), some (.int v1), some (.int v2), none]) (st' := [(.int 0)]) (I1 := I3) (T1 := T3) rfl ?_
              exact ev_ret rfl rfl hq
          · have hq := hq.2 hb
            refine ev_fg [true, true, true, true, true, false, false, true] (loc' := [some (.ref 2000000), some (.ref 0), some (.ref 46), some (.ref 536), some (.int x4), none, none, none]) rfl ?_
            exact s_W_main_270 (T := T3) hq
        · have hq := hq.2 hb
          refine ev_seq 1 (ip' := 258) (loc' := [some (.ref 2000000), some (.ref 0), some (.ref 46), some (.ref 536), some (.int x4), some (.int v1), some (.int v2), none]) (st' := [(.int 0)]) (I1 := I3) (T1 := T3) rfl ?_
          exact ev_ret rfl rfl hq
      · exact hq.elim
    · exact hq.elim
  · exact hq.elim
def t_W_main_315 (E : MEnv) (I : II) (T : TT) (Q : QQ) (x4 : Int32) : Prop := t_W_main_1543 E I T Q x4
theorem s_W_main_315 {E : MEnv} {I : II} {T : TT} {Q : QQ} {x4 : Int32} (hq : t_W_main_315 E I T Q x4) : ev E 0 315 [some (.ref 2000000), some (.ref 0), some (.ref 46), some (.ref 536), some (.int x4), none, none, none] [] I T Q := by
  unfold t_W_main_315 at hq
  refine ev_seq 1 (ip' := 1543) (loc' := [some (.ref 2000000), some (.ref 0), some (.ref 46), some (.ref 536), some (.int x4), none, none, none]) (st' := []) (I1 := I) (T1 := T) rfl ?_
  exact s_W_main_1543 (T := T) hq
def t_W_main_271 (E : MEnv) (I : II) (T : TT) (Q : QQ) (x4 : Int32) : Prop := (¬ (x4 + 1) < 0 ∧ (x4 + 1).toNatClampNeg < E.2.1) ∧ ((¬ (x4 + 2) < 0 ∧ (x4 + 2).toNatClampNeg < E.2.1) ∧ (ev E 186 0 [some (.ref 0), some (.int (E.2.2 (x4 + 1).toNatClampNeg)), some (.int (E.2.2 (x4 + 2).toNatClampNeg)), some (.ref 536), none] [] I T (KI (fun v1 I1 T1 => (¬ (x4 + 1) < 0 ∧ (x4 + 1).toNatClampNeg < E.2.1) ∧ ((¬ (x4 + 2) < 0 ∧ (x4 + 2).toNatClampNeg < E.2.1) ∧ (ev E 189 0 [some (.ref 46), some (.int (E.2.2 (x4 + 1).toNatClampNeg)), some (.int (E.2.2 (x4 + 2).toNatClampNeg))] [] I1 T1 (KI (fun v2 I2 T2 => ev E 76 0 [some (.ref 46)] [] I2 T2 (KI (fun v3 I3 T3 => (v3 = v1 → ((v1 = 0 → (((lg_cmp (T3.1 536 0) v2.toInt64) = 0 → (t_W_main_315 E I3 T3 Q x4)) ∧ (¬ ((lg_cmp (T3.1 536 0) v2.toInt64) = 0) → (Q (.inl (some (.int 0))) I3 T3)))) ∧ (¬ (v1 = 0) → (t_W_main_315 E I3 T3 Q x4)))) ∧ (¬ (v3 = v1) → (Q (.inl (some (.int 0))) I3 T3))) (fun _ _ _ => False))) (fun _ _ _ => False))))) (fun _ _ _ => False))))
theorem s_W_main_271 {E : MEnv} {I : II} {T : TT} {Q : QQ} {x4 : Int32} (hq : t_W_main_271 E I T Q x4) : ev E 0 271 [some (.ref 2000000), some (.ref 0), some (.ref 46), some (.ref 536), some (.int x4), none, none, none] [] I T Q := by
  unfold t_W_main_271 at hq
  refine ev_seq 5 (ip' := 276) (loc' := [some (.ref 2000000), some (.ref 0), some (.ref 46), some (.ref 536), some (.int x4), none, none, none]) (st' := [(.int (x4 + 1)), (.ref 2000000), (.ref 0)]) (I1 := I) (T1 := T) rfl ?_
  obtain ⟨hg, hq⟩ := hq
  refine ev_xald rfl hg ?_
  refine ev_seq 4 (ip' := 281) (loc' := [some (.ref 2000000), some (.ref 0), some (.ref 46), some (.ref 536), some (.int x4), none, none, none]) (st' := [(.int (x4 + 2)), (.ref 2000000), (.int (E.2.2 (x4 + 1).toNatClampNeg)), (.ref 0)]) (I1 := I) (T1 := T) rfl ?_
  obtain ⟨hg, hq⟩ := hq
  refine ev_xald rfl hg ?_
  refine ev_seq 1 (ip' := 283) (loc' := [some (.ref 2000000), some (.ref 0), some (.ref 46), some (.ref 536), some (.int x4), none, none, none]) (st' := [(.ref 536), (.int (E.2.2 (x4 + 2).toNatClampNeg)), (.int (E.2.2 (x4 + 1).toNatClampNeg)), (.ref 0)]) (I1 := I) (T1 := T) rfl ?_
  refine ev_callI rfl rfl rfl (fun v1 I1 T1 hq => ?_) (fun x I1 T1 hq => ?_) hq
  · refine ev_seq 6 (ip' := 290) (loc' := [some (.ref 2000000), some (.ref 0), some (.ref 46), some (.ref 536), some (.int x4), some (.int v1), none, none]) (st' := [(.int (x4 + 1)), (.ref 2000000), (.ref 46)]) (I1 := I1) (T1 := T1) rfl ?_
    obtain ⟨hg, hq⟩ := hq
    refine ev_xald rfl hg ?_
    refine ev_seq 4 (ip' := 295) (loc' := [some (.ref 2000000), some (.ref 0), some (.ref 46), some (.ref 536), some (.int x4), some (.int v1), none, none]) (st' := [(.int (x4 + 2)), (.ref 2000000), (.int (E.2.2 (x4 + 1).toNatClampNeg)), (.ref 46)]) (I1 := I1) (T1 := T1) rfl ?_
    obtain ⟨hg, hq⟩ := hq
    refine ev_xald rfl hg ?_
    refine ev_callI rfl rfl rfl (fun v2 I2 T2 hq => ?_) (fun x I1 T1 hq => ?_) hq
    · refine ev_seq 2 (ip' := 299) (loc' := [some (.ref 2000000), some (.ref 0), some (.ref 46), some (.ref 536), some (.int x4), some (.int v1), some (.int v2), none]) (st' := [(.ref 46)]) (I1 := I2) (T1 := T2) rfl ?_
      refine ev_callI rfl rfl rfl (fun v3 I3 T3 hq => ?_) (fun x I1 T1 hq => ?_) hq
      · refine ev_seq 1 (ip' := 301) (loc' := [some (.ref 2000000), some (.ref 0), some (.ref 46), some (.ref 536), some (.int x4), some (.int v1), some (.int v2), none]) (st' := [(.int v1), (.int v3)]) (I1 := I3) (T1 := T3) rfl ?_
        refine ev_br (p := v3 = v1) (a := 304) (b := 302) (st' := []) inferInstance rfl rfl (fun hb => ?_) (fun hb => ?_)
        · have hq := hq.1 hb
          refine ev_seq 1 (ip' := 305) (loc' := [some (.ref 2000000), some (.ref 0), some (.ref 46), some (.ref 536), some (.int x4), some (.int v1), some (.int v2), none]) (st' := [(.int v1)]) (I1 := I3) (T1 := T3) rfl ?_
          refine ev_br (p := v1 = 0) (a := 306) (b := 315) (st' := []) inferInstance rfl rfl (fun hb => ?_) (fun hb => ?_)
          · have hq := hq.1 hb
            refine ev_seq 6 (ip' := 312) (loc' := [some (.ref 2000000), some (.ref 0), some (.ref 46), some (.ref 536), some (.int x4), some (.int v1), some (.int v2), none]) (st' := [(.int (lg_cmp (T3.1 536 0) v2.toInt64))]) (I1 := I3) (T1 := T3) rfl ?_
            refine ev_br (p := (lg_cmp (T3.1 536 0) v2.toInt64) = 0) (a := 315) (b := 313) (st' := []) inferInstance rfl rfl (fun hb => ?_) (fun hb => ?_)
            · have hq := hq.1 hb
              refine ev_fg [true, true, true, true, true, false, false, true] (loc' := [some (.ref 2000000), some (.ref 0), some (.ref 46), some (.ref 536), some (.int x4), none, none, none]) rfl ?_
              exact s_W_main_315 (T := T3) hq
            · have hq := hq.2 hb
              refine ev_seq 1 (ip' := 314) (loc' := [some (.ref 2000000), some (.ref 0), some (.ref 46), some (.ref 536), some (.int x4), some (.int v1), some (.int v2), none]) (st' := [(.int 0)]) (I1 := I3) (T1 := T3) rfl ?_
              exact ev_ret rfl rfl hq
          · have hq := hq.2 hb
            refine ev_fg [true, true, true, true, true, false, false, true] (loc' := [some (.ref 2000000), some (.ref 0), some (.ref 46), some (.ref 536), some (.int x4), none, none, none]) rfl ?_
            exact s_W_main_315 (T := T3) hq
        · have hq := hq.2 hb
          refine ev_seq 1 (ip' := 303) (loc' := [some (.ref 2000000), some (.ref 0), some (.ref 46), some (.ref 536), some (.int x4), some (.int v1), some (.int v2), none]) (st' := [(.int 0)]) (I1 := I3) (T1 := T3) rfl ?_
          exact ev_ret rfl rfl hq
      · exact hq.elim
    · exact hq.elim
  · exact hq.elim
def t_W_main_360 (E : MEnv) (I : II) (T : TT) (Q : QQ) (x4 : Int32) : Prop := t_W_main_1543 E I T Q x4
theorem s_W_main_360 {E : MEnv} {I : II} {T : TT} {Q : QQ} {x4 : Int32} (hq : t_W_main_360 E I T Q x4) : ev E 0 360 [some (.ref 2000000), some (.ref 0), some (.ref 46), some (.ref 536), some (.int x4), none, none, none] [] I T Q := by
  unfold t_W_main_360 at hq
  refine ev_seq 1 (ip' := 1543) (loc' := [some (.ref 2000000), some (.ref 0), some (.ref 46), some (.ref 536), some (.int x4), none, none, none]) (st' := []) (I1 := I) (T1 := T) rfl ?_
  exact s_W_main_1543 (T := T) hq
def t_W_main_316 (E : MEnv) (I : II) (T : TT) (Q : QQ) (x4 : Int32) : Prop := (¬ (x4 + 1) < 0 ∧ (x4 + 1).toNatClampNeg < E.2.1) ∧ ((¬ (x4 + 2) < 0 ∧ (x4 + 2).toNatClampNeg < E.2.1) ∧ (ev E 191 0 [some (.ref 0), some (.int (E.2.2 (x4 + 1).toNatClampNeg)), some (.int (E.2.2 (x4 + 2).toNatClampNeg)), some (.ref 536), none] [] I T (KI (fun v1 I1 T1 => (¬ (x4 + 1) < 0 ∧ (x4 + 1).toNatClampNeg < E.2.1) ∧ ((¬ (x4 + 2) < 0 ∧ (x4 + 2).toNatClampNeg < E.2.1) ∧ (ev E 194 0 [some (.ref 46), some (.int (E.2.2 (x4 + 1).toNatClampNeg)), some (.int (E.2.2 (x4 + 2).toNatClampNeg))] [] I1 T1 (KI (fun v2 I2 T2 => ev E 76 0 [some (.ref 46)] [] I2 T2 (KI (fun v3 I3 T3 => (v3 = v1 → ((v1 = 0 → (((lg_cmp (T3.1 536 0) v2.toInt64) = 0 → (t_W_main_360 E I3 T3 Q x4)) ∧ (¬ ((lg_cmp (T3.1 536 0) v2.toInt64) = 0) → (Q (.inl (some (.int 0))) I3 T3)))) ∧ (¬ (v1 = 0) → (t_W_main_360 E I3 T3 Q x4)))) ∧ (¬ (v3 = v1) → (Q (.inl (some (.int 0))) I3 T3))) (fun _ _ _ => False))) (fun _ _ _ => False))))) (fun _ _ _ => False))))
theorem s_W_main_316 {E : MEnv} {I : II} {T : TT} {Q : QQ} {x4 : Int32} (hq : t_W_main_316 E I T Q x4) : ev E 0 316 [some (.ref 2000000), some (.ref 0), some (.ref 46), some (.ref 536), some (.int x4), none, none, none] [] I T Q := by
  unfold t_W_main_316 at hq
  refine ev_seq 5 (ip' := 321) (loc' := [some (.ref 2000000), some (.ref 0), some (.ref 46), some (.ref 536), some (.int x4), none, none, none]) (st' := [(.int (x4 + 1)), (.ref 2000000), (.ref 0)]) (I1 := I) (T1 := T) rfl ?_
  obtain ⟨hg, hq⟩ := hq
  refine ev_xald rfl hg ?_
  refine ev_seq 4 (ip' := 326) (loc' := [some (.ref 2000000), some (.ref 0), some (.ref 46), some (.ref 536), some (.int x4), none, none, none]) (st' := [(.int (x4 + 2)), (.ref 2000000), (.int (E.2.2 (x4 + 1).toNatClampNeg)), (.ref 0)]) (I1 := I) (T1 := T) rfl ?_
  obtain ⟨hg, hq⟩ := hq
  refine ev_xald rfl hg ?_
  refine ev_seq 1 (ip' := 328) (loc' := [some (.ref 2000000), some (.ref 0), some (.ref 46), some (.ref 536), some (.int x4), none, none, none]) (st' := [(.ref 536), (.int (E.2.2 (x4 + 2).toNatClampNeg)), (.int (E.2.2 (x4 + 1).toNatClampNeg)), (.ref 0)]) (I1 := I) (T1 := T) rfl ?_
  refine ev_callI rfl rfl rfl (fun v1 I1 T1 hq => ?_) (fun x I1 T1 hq => ?_) hq
  · refine ev_seq 6 (ip' := 335) (loc' := [some (.ref 2000000), some (.ref 0), some (.ref 46), some (.ref 536), some (.int x4), some (.int v1), none, none]) (st' := [(.int (x4 + 1)), (.ref 2000000), (.ref 46)]) (I1 := I1) (T1 := T1) rfl ?_
    obtain ⟨hg, hq⟩ := hq
    refine ev_xald rfl hg ?_
    refine ev_seq 4 (ip' := 340) (loc' := [some (.ref 2000000), some (.ref 0), some (.ref 46), some (.ref 536), some (.int x4), some (.int v1), none, none]) (st' := [(.int (x4 + 2)), (.ref 2000000), (.int (E.2.2 (x4 + 1).toNatClampNeg)), (.ref 46)]) (I1 := I1) (T1 := T1) rfl ?_
    obtain ⟨hg, hq⟩ := hq
    refine ev_xald rfl hg ?_
    refine ev_callI rfl rfl rfl (fun v2 I2 T2 hq => ?_) (fun x I1 T1 hq => ?_) hq
    · refine ev_seq 2 (ip' := 344) (loc' := [some (.ref 2000000), some (.ref 0), some (.ref 46), some (.ref 536), some (.int x4), some (.int v1), some (.int v2), none]) (st' := [(.ref 46)]) (I1 := I2) (T1 := T2) rfl ?_
      refine ev_callI rfl rfl rfl (fun v3 I3 T3 hq => ?_) (fun x I1 T1 hq => ?_) hq
      · refine ev_seq 1 (ip' := 346) (loc' := [some (.ref 2000000), some (.ref 0), some (.ref 46), some (.ref 536), some (.int x4), some (.int v1), some (.int v2), none]) (st' := [(.int v1), (.int v3)]) (I1 := I3) (T1 := T3) rfl ?_
        refine ev_br (p := v3 = v1) (a := 349) (b := 347) (st' := []) inferInstance rfl rfl (fun hb => ?_) (fun hb => ?_)
        · have hq := hq.1 hb
          refine ev_seq 1 (ip' := 350) (loc' := [some (.ref 2000000), some (.ref 0), some (.ref 46), some (.ref 536), some (.int x4), some (.int v1), some (.int v2), none]) (st' := [(.int v1)]) (I1 := I3) (T1 := T3) rfl ?_
          refine ev_br (p := v1 = 0) (a := 351) (b := 360) (st' := []) inferInstance rfl rfl (fun hb => ?_) (fun hb => ?_)
          · have hq := hq.1 hb
            refine ev_seq 6 (ip' := 357) (loc' := [some (.ref 2000000), some (.ref 0), some (.ref 46), some (.ref 536), some (.int x4), some (.int v1), some (.int v2), none]) (st' := [(.int (lg_cmp (T3.1 536 0) v2.toInt64))]) (I1 := I3) (T1 := T3) rfl ?_
            refine ev_br (p := (lg_cmp (T3.1 536 0) v2.toInt64) = 0) (a := 360) (b := 358) (st' := []) inferInstance rfl rfl (fun hb => ?_) (fun hb => ?_)
            · have hq := hq.1 hb
              refine ev_fg [true, true, true, true, true, false, false, true] (loc' := [some (.ref 2000000), some (.ref 0), some (.ref 46), some (.ref 536), some (.int x4), none, none, none]) rfl ?_
              exact s_W_main_360 (T := T3) hq
            · have hq := hq.2 hb
              refine ev_seq 1 (ip' := 359) (loc' := [some (.ref 2000000), some (.ref 0), some (.ref 46), some (.ref 536), some (.int x4), some (.int v1), some (.int v2), none]) (st' := [(.int 0)]) (I1 := I3) (T1 := T3) rfl ?_
              exact ev_ret rfl rfl hq
          · have hq := hq.2 hb
            refine ev_fg [true, true, true, true, true, false, false, true] (loc' := [some (.ref 2000000), some (.ref 0), some (.ref 46), some (.ref 536), some (.int x4), none, none, none]) rfl ?_
            exact s_W_main_360 (T := T3) hq
        · have hq := hq.2 hb
          refine ev_seq 1 (ip' := 348) (loc' := [some (.ref 2000000), some (.ref 0), some (.ref 46), some (.ref 536), some (.int x4), some (.int v1), some (.int v2), none]) (st' := [(.int 0)]) (I1 := I3) (T1 := T3) rfl ?_
          exact ev_ret rfl rfl hq
      · exact hq.elim
    · exact hq.elim
  · exact hq.elim
def t_W_main_395 (E : MEnv) (I : II) (T : TT) (Q : QQ) (x4 : Int32) : Prop := t_W_main_1543 E I T Q x4
theorem s_W_main_395 {E : MEnv} {I : II} {T : TT} {Q : QQ} {x4 : Int32} (hq : t_W_main_395 E I T Q x4) : ev E 0 395 [some (.ref 2000000), some (.ref 0), some (.ref 46), some (.ref 536), some (.int x4), none, none, none] [] I T Q := by
  unfold t_W_main_395 at hq
  refine ev_seq 1 (ip' := 1543) (loc' := [some (.ref 2000000), some (.ref 0), some (.ref 46), some (.ref 536), some (.int x4), none, none, none]) (st' := []) (I1 := I) (T1 := T) rfl ?_
  exact s_W_main_1543 (T := T) hq
def t_W_main_361 (E : MEnv) (I : II) (T : TT) (Q : QQ) (x4 : Int32) : Prop := (¬ (x4 + 1) < 0 ∧ (x4 + 1).toNatClampNeg < E.2.1) ∧ (ev E 196 0 [some (.ref 0), some (.int (E.2.2 (x4 + 1).toNatClampNeg)), some (.ref 536), none] [] I T (KI (fun v1 I1 T1 => (¬ (x4 + 1) < 0 ∧ (x4 + 1).toNatClampNeg < E.2.1) ∧ (ev E 199 0 [some (.ref 46), some (.int (E.2.2 (x4 + 1).toNatClampNeg))] [] I1 T1 (KI (fun v2 I2 T2 => ev E 76 0 [some (.ref 46)] [] I2 T2 (KI (fun v3 I3 T3 => (v3 = v1 → ((v1 = 0 → (((lg_cmp (T3.1 536 0) v2.toInt64) = 0 → (t_W_main_395 E I3 T3 Q x4)) ∧ (¬ ((lg_cmp (T3.1 536 0) v2.toInt64) = 0) → (Q (.inl (some (.int 0))) I3 T3)))) ∧ (¬ (v1 = 0) → (t_W_main_395 E I3 T3 Q x4)))) ∧ (¬ (v3 = v1) → (Q (.inl (some (.int 0))) I3 T3))) (fun _ _ _ => False))) (fun _ _ _ => False)))) (fun _ _ _ => False)))
theorem s_W_main_361 {E : MEnv} {I : II} {T : TT} {Q : QQ} {x4 : Int32} (hq : t_W_main_361 E I T Q x4) : ev E 0 361 [some (.ref 2000000), some (.ref 0), some (.ref 46), some (.ref 536), some (.int x4), none, none, none] [] I T Q := by
  unfold t_W_main_361 at hq
  refine ev_seq 5 (ip' := 366) (loc' := [some (.ref 2000000), some (.ref 0), some (.ref 46), some (.ref 536), some (.int x4), none, none, none]) (st' := [(.int (x4 + 1)), (.ref 2000000), (.ref 0)]) (I1 := I) (T1 := T) rfl ?_
  obtain ⟨hg, hq⟩ := hq
  refine ev_xald rfl hg ?_
  refine ev_seq 1 (ip' := 368) (loc' := [some (.ref 2000000), some (.ref 0), some (.ref 46), some (.ref 536), some (.int x4), none, none, none]) (st' := [(.ref 536), (.int (E.2.2 (x4 + 1).toNatClampNeg)), (.ref 0)]) (I1 := I) (T1 := T) rfl ?_
  refine ev_callI rfl rfl rfl (fun v1 I1 T1 hq => ?_) (fun x I1 T1 hq => ?_) hq
  · refine ev_seq 6 (ip' := 375) (loc' := [some (.ref 2000000), some (.ref 0), some (.ref 46), some (.ref 536), some (.int x4), some (.int v1), none, none]) (st' := [(.int (x4 + 1)), (.ref 2000000), (.ref 46)]) (I1 := I1) (T1 := T1) rfl ?_
    obtain ⟨hg, hq⟩ := hq
    refine ev_xald rfl hg ?_
    refine ev_callI rfl rfl rfl (fun v2 I2 T2 hq => ?_) (fun x I1 T1 hq => ?_) hq
    · refine ev_seq 2 (ip' := 379) (loc' := [some (.ref 2000000), some (.ref 0), some (.ref 46), some (.ref 536), some (.int x4), some (.int v1), some (.int v2), none]) (st' := [(.ref 46)]) (I1 := I2) (T1 := T2) rfl ?_
      refine ev_callI rfl rfl rfl (fun v3 I3 T3 hq => ?_) (fun x I1 T1 hq => ?_) hq
      · refine ev_seq 1 (ip' := 381) (loc' := [some (.ref 2000000), some (.ref 0), some (.ref 46), some (.ref 536), some (.int x4), some (.int v1), some (.int v2), none]) (st' := [(.int v1), (.int v3)]) (I1 := I3) (T1 := T3) rfl ?_
        refine ev_br (p := v3 = v1) (a := 384) (b := 382) (st' := []) inferInstance rfl rfl (fun hb => ?_) (fun hb => ?_)
        · have hq := hq.1 hb
          refine ev_seq 1 (ip' := 385) (loc' := [some (.ref 2000000), some (.ref 0), some (.ref 46), some (.ref 536), some (.int x4), some (.int v1), some (.int v2), none]) (st' := [(.int v1)]) (I1 := I3) (T1 := T3) rfl ?_
          refine ev_br (p := v1 = 0) (a := 386) (b := 395) (st' := []) inferInstance rfl rfl (fun hb => ?_) (fun hb => ?_)
          · have hq := hq.1 hb
            refine ev_seq 6 (ip' := 392) (loc' := [some (.ref 2000000), some (.ref 0), some (.ref 46), some (.ref 536), some (.int x4), some (.int v1), some (.int v2), none]) (st' := [(.int (lg_cmp (T3.1 536 0) v2.toInt64))]) (I1 := I3) (T1 := T3) rfl ?_
            refine ev_br (p := (lg_cmp (T3.1 536 0) v2.toInt64) = 0) (a := 395) (b := 393) (st' := []) inferInstance rfl rfl (fun hb => ?_) (fun hb => ?_)
            · have hq := hq.1 hb
              refine ev_fg [true, true, true, true, true, false, false, true] (loc' := [some (.ref 2000000), some (.ref 0), some (.ref 46), some (.ref 536), some (.int x4), none, none, none]) rfl ?_
              exact s_W_main_395 (T := T3) hq
            · have hq := hq.2 hb
              refine ev_seq 1 (ip' := 394) (loc' := [some (.ref 2000000), some (.ref 0), some (.ref 46), some (.ref 536), some (.int x4), some (.int v1), some (.int v2), none]) (st' := [(.int 0)]) (I1 := I3) (T1 := T3) rfl ?_
              exact ev_ret rfl rfl hq
          · have hq := hq.2 hb
            refine ev_fg [true, true, true, true, true, false, false, true] (loc' := [some (.ref 2000000), some (.ref 0), some (.ref 46), some (.ref 536), some (.int x4), none, none, none]) rfl ?_
            exact s_W_main_395 (T := T3) hq
        · have hq := hq.2 hb
          refine ev_seq 1 (ip' := 383) (loc' := [some (.ref 2000000), some (.ref 0), some (.ref 46), some (.ref 536), some (.int x4), some (.int v1), some (.int v2), none]) (st' := [(.int 0)]) (I1 := I3) (T1 := T3) rfl ?_
          exact ev_ret rfl rfl hq
      · exact hq.elim
    · exact hq.elim
  · exact hq.elim
def t_W_main_440 (E : MEnv) (I : II) (T : TT) (Q : QQ) (x4 : Int32) : Prop := t_W_main_1543 E I T Q x4
theorem s_W_main_440 {E : MEnv} {I : II} {T : TT} {Q : QQ} {x4 : Int32} (hq : t_W_main_440 E I T Q x4) : ev E 0 440 [some (.ref 2000000), some (.ref 0), some (.ref 46), some (.ref 536), some (.int x4), none, none, none] [] I T Q := by
  unfold t_W_main_440 at hq
  refine ev_seq 1 (ip' := 1543) (loc' := [some (.ref 2000000), some (.ref 0), some (.ref 46), some (.ref 536), some (.int x4), none, none, none]) (st' := []) (I1 := I) (T1 := T) rfl ?_
  exact s_W_main_1543 (T := T) hq
def t_W_main_396 (E : MEnv) (I : II) (T : TT) (Q : QQ) (x4 : Int32) : Prop := (¬ (x4 + 1) < 0 ∧ (x4 + 1).toNatClampNeg < E.2.1) ∧ ((¬ (x4 + 2) < 0 ∧ (x4 + 2).toNatClampNeg < E.2.1) ∧ (ev E 201 0 [some (.ref 0), some (.int (E.2.2 (x4 + 1).toNatClampNeg)), some (.int (E.2.2 (x4 + 2).toNatClampNeg)), some (.ref 536), none] [] I T (KI (fun v1 I1 T1 => (¬ (x4 + 1) < 0 ∧ (x4 + 1).toNatClampNeg < E.2.1) ∧ ((¬ (x4 + 2) < 0 ∧ (x4 + 2).toNatClampNeg < E.2.1) ∧ (ev E 203 0 [some (.ref 46), some (.int (E.2.2 (x4 + 1).toNatClampNeg)), some (.int (E.2.2 (x4 + 2).toNatClampNeg))] [] I1 T1 (KI (fun v2 I2 T2 => ev E 76 0 [some (.ref 46)] [] I2 T2 (KI (fun v3 I3 T3 => (v3 = v1 → ((v1 = 0 → (((lg_cmp (T3.1 536 0) v2.toInt64) = 0 → (t_W_main_440 E I3 T3 Q x4)) ∧ (¬ ((lg_cmp (T3.1 536 0) v2.toInt64) = 0) → (Q (.inl (some (.int 0))) I3 T3)))) ∧ (¬ (v1 = 0) → (t_W_main_440 E I3 T3 Q x4)))) ∧ (¬ (v3 = v1) → (Q (.inl (some (.int 0))) I3 T3))) (fun _ _ _ => False))) (fun _ _ _ => False))))) (fun _ _ _ => False))))
theorem s_W_main_396 {E : MEnv} {I : II} {T : TT} {Q : QQ} {x4 : Int32} (hq : t_W_main_396 E I T Q x4) : ev E 0 396 [some (.ref 2000000), some (.ref 0), some (.ref 46), some (.ref 536), some (.int x4), none, none, none] [] I T Q := by
  unfold t_W_main_396 at hq
  refine ev_seq 5 (ip' := 401) (loc' := [some (.ref 2000000), some (.ref 0), some (.ref 46), some (.ref 536), some (.int x4), none, none, none]) (st' := [(.int (x4 + 1)), (.ref 2000000), (.ref 0)]) (I1 := I) (T1 := T) rfl ?_
  obtain ⟨hg, hq⟩ := hq
  refine ev_xald rfl hg ?_
  refine ev_seq 4 (ip' := 406) (loc' := [some (.ref 2000000), some (.ref 0), some (.ref 46), some (.ref 536), some (.int x4), none, none, none]) (st' := [(.int (x4 + 2)), (.ref 2000000), (.int (E.2.2 (x4 + 1).toNatClampNeg)), (.ref 0)]) (I1 := I) (T1 := T) rfl ?_
  obtain ⟨hg, hq⟩ := hq
  refine ev_xald rfl hg ?_
  refine ev_seq 1 (ip' := 408) (loc' := [some (.ref 2000000), some (.ref 0), some (.ref 46), some (.ref 536), some (.int x4), none, none, none]) (st' := [(.ref 536), (.int (E.2.2 (x4 + 2).toNatClampNeg)), (.int (E.2.2 (x4 + 1).toNatClampNeg)), (.ref 0)]) (I1 := I) (T1 := T) rfl ?_
  refine ev_callI rfl rfl rfl (fun v1 I1 T1 hq => ?_) (fun x I1 T1 hq => ?_) hq
  · refine ev_seq 6 (ip' := 415) (loc' := [some (.ref 2000000), some (.ref 0), some (.ref 46), some (.ref 536), some (.int x4), some (.int v1), none, none]) (st' := [(.int (x4 + 1)), (.ref 2000000), (.ref 46)]) (I1 := I1) (T1 := T1) rfl ?_
    obtain ⟨hg, hq⟩ := hq
    refine ev_xald rfl hg ?_
    refine ev_seq 4 (ip' := 420) (loc' := [some (.ref 2000000), some (.ref 0), some (.ref 46), some (.ref 536), some (.int x4), some (.int v1), none, none]) (st' := [(.int (x4 + 2)), (.ref 2000000), (.int (E.2.2 (x4 + 1).toNatClampNeg)), (.ref 46)]) (I1 := I1) (T1 := T1) rfl ?_
    obtain ⟨hg, hq⟩ := hq
    refine ev_xald rfl hg ?_
    refine ev_callI rfl rfl rfl (fun v2 I2 T2 hq => ?_) (fun x I1 T1 hq => ?_) hq
    · refine ev_seq 2 (ip' := 424) (loc' := [some (.ref 2000000), some (.ref 0), some (.ref 46), some (.ref 536), some (.int x4), some (.int v1), some (.int v2), none]) (st' := [(.ref 46)]) (I1 := I2) (T1 := T2) rfl ?_
      refine ev_callI rfl rfl rfl (fun v3 I3 T3 hq => ?_) (fun x I1 T1 hq => ?_) hq
      · refine ev_seq 1 (ip' := 426) (loc' := [some (.ref 2000000), some (.ref 0), some (.ref 46), some (.ref 536), some (.int x4), some (.int v1), some (.int v2), none]) (st' := [(.int v1), (.int v3)]) (I1 := I3) (T1 := T3) rfl ?_
        refine ev_br (p := v3 = v1) (a := 429) (b := 427) (st' := []) inferInstance rfl rfl (fun hb => ?_) (fun hb => ?_)
        · have hq := hq.1 hb
          refine ev_seq 1 (ip' := 430) (loc' := [some (.ref 2000000), some (.ref 0), some (.ref 46), some (.ref 536), some (.int x4), some (.int v1), some (.int v2), none]) (st' := [(.int v1)]) (I1 := I3) (T1 := T3) rfl ?_
          refine ev_br (p := v1 = 0) (a := 431) (b := 440) (st' := []) inferInstance rfl rfl (fun hb => ?_) (fun hb => ?_)
          · have hq := hq.1 hb
            refine ev_seq 6 (ip' := 437) (loc' := [some (.ref 2000000), some (.ref 0), some (.ref 46), some (.ref 536), some (.int x4), some (.int v1), some (.int v2), none]) (st' := [(.int (lg_cmp (T3.1 536 0) v2.toInt64))]) (I1 := I3) (T1 := T3) rfl ?_
            refine ev_br (p := (lg_cmp (T3.1 536 0) v2.toInt64) = 0) (a := 440) (b := 438) (st' := []) inferInstance rfl rfl (fun hb => ?_) (fun hb => ?_)
            · have hq := hq.1 hb
              refine ev_fg [true, true, true, true, true, false, false, true] (loc' := [some (.ref 2000000), some (.ref 0), some (.ref 46), some (.ref 536), some (.int x4), none, none, none]) rfl ?_
              exact s_W_main_440 (T := T3) hq
            · have hq := hq.2 hb
              refine ev_seq 1 (ip' := 439) (loc' := [some (.ref 2000000), some (.ref 0), some (.ref 46), some (.ref 536), some (.int x4), some (.int v1), some (.int v2), none]) (st' := [(.int 0)]) (I1 := I3) (T1 := T3) rfl ?_
              exact ev_ret rfl rfl hq
          · have hq := hq.2 hb
            refine ev_fg [true, true, true, true, true, false, false, true] (loc' := [some (.ref 2000000), some (.ref 0), some (.ref 46), some (.ref 536), some (.int x4), none, none, none]) rfl ?_
            exact s_W_main_440 (T := T3) hq
        · have hq := hq.2 hb
          refine ev_seq 1 (ip' := 428) (loc' := [some (.ref 2000000), some (.ref 0), some (.ref 46), some (.ref 536), some (.int x4), some (.int v1), some (.int v2), none]) (st' := [(.int 0)]) (I1 := I3) (T1 := T3) rfl ?_
          exact ev_ret rfl rfl hq
      · exact hq.elim
    · exact hq.elim
  · exact hq.elim
def t_W_main_545 (E : MEnv) (I : II) (T : TT) (Q : QQ) (x4 : Int32) : Prop := t_W_main_1543 E I T Q x4
theorem s_W_main_545 {E : MEnv} {I : II} {T : TT} {Q : QQ} {x4 : Int32} (hq : t_W_main_545 E I T Q x4) : ev E 0 545 [some (.ref 2000000), some (.ref 0), some (.ref 46), some (.ref 536), some (.int x4), none, none, none] [] I T Q := by
  unfold t_W_main_545 at hq
  refine ev_seq 1 (ip' := 1543) (loc' := [some (.ref 2000000), some (.ref 0), some (.ref 46), some (.ref 536), some (.int x4), none, none, none]) (st' := []) (I1 := I) (T1 := T) rfl ?_
  exact s_W_main_1543 (T := T) hq
def t_W_main_441 (E : MEnv) (I : II) (T : TT) (Q : QQ) (x4 : Int32) : Prop := (¬ (x4 + 1) < 0 ∧ (x4 + 1).toNatClampNeg < E.2.1) ∧ ((¬ (x4 + 2) < 0 ∧ (x4 + 2).toNatClampNeg < E.2.1) ∧ ((¬ (x4 + 3) < 0 ∧ (x4 + 3).toNatClampNeg < E.2.1) ∧ ((¬ (x4 + 4) < 0 ∧ (x4 + 4).toNatClampNeg < E.2.1) ∧ ((¬ (x4 + 5) < 0 ∧ (x4 + 5).toNatClampNeg < E.2.1) ∧ ((¬ (x4 + 6) < 0 ∧ (x4 + 6).toNatClampNeg < E.2.1) ∧ ((¬ (x4 + 7) < 0 ∧ (x4 + 7).toNatClampNeg < E.2.1) ∧ ((¬ (x4 + 8) < 0 ∧ (x4 + 8).toNatClampNeg < E.2.1) ∧ (ev E 204 0 [some (.ref 0), some (.int (E.2.2 (x4 + 1).toNatClampNeg)), some (.int (E.2.2 (x4 + 2).toNatClampNeg)), some (.int (E.2.2 (x4 + 3).toNatClampNeg)), some (.int (E.2.2 (x4 + 4).toNatClampNeg)), some (.int (E.2.2 (x4 + 5).toNatClampNeg)), some (.int (E.2.2 (x4 + 6).toNatClampNeg)), some (.int (E.2.2 (x4 + 7).toNatClampNeg)), some (.int (E.2.2 (x4 + 8).toNatClampNeg)), some (.ref 536), none] [] I T (KI (fun v1 I1 T1 => (¬ (x4 + 1) < 0 ∧ (x4 + 1).toNatClampNeg < E.2.1) ∧ ((¬ (x4 + 2) < 0 ∧ (x4 + 2).toNatClampNeg < E.2.1) ∧ ((¬ (x4 + 3) < 0 ∧ (x4 + 3).toNatClampNeg < E.2.1) ∧ ((¬ (x4 + 4) < 0 ∧ (x4 + 4).toNatClampNeg < E.2.1) ∧ ((¬ (x4 + 5) < 0 ∧ (x4 + 5).toNatClampNeg < E.2.1) ∧ ((¬ (x4 + 6) < 0 ∧ (x4 + 6).toNatClampNeg < E.2.1) ∧ ((¬ (x4 + 7) < 0 ∧ (x4 + 7).toNatClampNeg < E.2.1) ∧ ((¬ (x4 + 8) < 0 ∧ (x4 + 8).toNatClampNeg < E.2.1) ∧ (ev E 206 0 [some (.ref 46), some (.int (E.2.2 (x4 + 1).toNatClampNeg)), some (.int (E.2.2 (x4 + 2).toNatClampNeg)), some (.int (E.2.2 (x4 + 3).toNatClampNeg)), some (.int (E.2.2 (x4 + 4).toNatClampNeg)), some (.int (E.2.2 (x4 + 5).toNatClampNeg)), some (.int (E.2.2 (x4 + 6).toNatClampNeg)), some (.int (E.2.2 (x4 + 7).toNatClampNeg)), some (.int (E.2.2 (x4 + 8).toNatClampNeg))] [] I1 T1 (KI (fun v2 I2 T2 => ev E 76 0 [some (.ref 46)] [] I2 T2 (KI (fun v3 I3 T3 => (v3 = v1 → ((v1 = 0 → (((lg_cmp (T3.1 536 0) v2.toInt64) = 0 → (t_W_main_545 E I3 T3 Q x4)) ∧ (¬ ((lg_cmp (T3.1 536 0) v2.toInt64) = 0) → (Q (.inl (some (.int 0))) I3 T3)))) ∧ (¬ (v1 = 0) → (t_W_main_545 E I3 T3 Q x4)))) ∧ (¬ (v3 = v1) → (Q (.inl (some (.int 0))) I3 T3))) (fun _ _ _ => False))) (fun _ _ _ => False))))))))))) (fun _ _ _ => False))))))))))
theorem s_W_main_441 {E : MEnv} {I : II} {T : TT} {Q : QQ} {x4 : Int32} (hq : t_W_main_441 E I T Q x4) : ev E 0 441 [some (.ref 2000000), some (.ref 0), some (.ref 46), some (.ref 536), some (.int x4), none, none, none] [] I T Q := by
  unfold t_W_main_441 at hq
  refine ev_seq 5 (ip' := 446) (loc' := [some (.ref 2000000), some (.ref 0), some (.ref 46), some (.ref 536), some (.int x4), none, none, none]) (st' := [(.int (x4 + 1)), (.ref 2000000), (.ref 0)]) (I1 := I) (T1 := T) rfl ?_
  obtain ⟨hg, hq⟩ := hq
  refine ev_xald rfl hg ?_
  refine ev_seq 4 (ip' := 451) (loc' := [some (.ref 2000000), some (.ref 0), some (.ref 46), some (.ref 536), some (.int x4), none, none, none]) (st' := [(.int (x4 + 2)), (.ref 2000000), (.int (E.2.2 (x4 + 1).toNatClampNeg)), (.ref 0)]) (I1 := I) (T1 := T) rfl ?_
  obtain ⟨hg, hq⟩ := hq
  refine ev_xald rfl hg ?_
  refine ev_seq 4 (ip' := 456) (loc' := [some (.ref 2000000), some (.ref 0), some (.ref 46), some (.ref 536), some (.int x4), none, none, none]) (st' := [(.int (x4 + 3)), (.ref 2000000), (.int (E.2.2 (x4 + 2).toNatClampNeg)), (.int (E.2.2 (x4 + 1).toNatClampNeg)), (.ref 0)]) (I1 := I) (T1 := T) rfl ?_
  obtain ⟨hg, hq⟩ := hq
  refine ev_xald rfl hg ?_
  refine ev_seq 4 (ip' := 461) (loc' := [some (.ref 2000000), some (.ref 0), some (.ref 46), some (.ref 536), some (.int x4), none, none, none]) (st' := [(.int (x4 + 4)), (.ref 2000000), (.int (E.2.2 (x4 + 3).toNatClampNeg)), (.int (E.2.2 (x4 + 2).toNatClampNeg)), (.int (E.2.2 (x4 + 1).toNatClampNeg)), (.ref 0)]) (I1 := I) (T1 := T) rfl ?_
  obtain ⟨hg, hq⟩ := hq
  refine ev_xald rfl hg ?_
  refine ev_seq 4 (ip' := 466) (loc' := [some (.ref 2000000), some (.ref 0), some (.ref 46), some (.ref 536), some (.int x4), none, none, none]) (st' := [(.int (x4 + 5)), (.ref 2000000), (.int (E.2.2 (x4 + 4).toNatClampNeg)), (.int (E.2.2 (x4 + 3).toNatClampNeg)), (.int (E.2.2 (x4 + 2).toNatClampNeg)), (.int (E.2.2 (x4 + 1).toNatClampNeg)), (.ref 0)]) (I1 := I) (T1 := T) rfl ?_
  obtain ⟨hg, hq⟩ := hq
  refine ev_xald rfl hg ?_
  refine ev_seq 4 (ip' := 471) (loc' := [some (.ref 2000000), some (.ref 0), some (.ref 46), some (.ref 536), some (.int x4), none, none, none]) (st' := [(.int (x4 + 6)), (.ref 2000000), (.int (E.2.2 (x4 + 5).toNatClampNeg)), (.int (E.2.2 (x4 + 4).toNatClampNeg)), (.int (E.2.2 (x4 + 3).toNatClampNeg)), (.int (E.2.2 (x4 + 2).toNatClampNeg)), (.int (E.2.2 (x4 + 1).toNatClampNeg)), (.ref 0)]) (I1 := I) (T1 := T) rfl ?_
  obtain ⟨hg, hq⟩ := hq
  refine ev_xald rfl hg ?_
  refine ev_seq 4 (ip' := 476) (loc' := [some (.ref 2000000), some (.ref 0), some (.ref 46), some (.ref 536), some (.int x4), none, none, none]) (st' := [(.int (x4 + 7)), (.ref 2000000), (.int (E.2.2 (x4 + 6).toNatClampNeg)), (.int (E.2.2 (x4 + 5).toNatClampNeg)), (.int (E.2.2 (x4 + 4).toNatClampNeg)), (.int (E.2.2 (x4 + 3).toNatClampNeg)), (.int (E.2.2 (x4 + 2).toNatClampNeg)), (.int (E.2.2 (x4 + 1).toNatClampNeg)), (.ref 0)]) (I1 := I) (T1 := T) rfl ?_
  obtain ⟨hg, hq⟩ := hq
  refine ev_xald rfl hg ?_
  refine ev_seq 4 (ip' := 481) (loc' := [some (.ref 2000000), some (.ref 0), some (.ref 46), some (.ref 536), some (.int x4), none, none, none]) (st' := [(.int (x4 + 8)), (.ref 2000000), (.int (E.2.2 (x4 + 7).toNatClampNeg)), (.int (E.2.2 (x4 + 6).toNatClampNeg)), (.int (E.2.2 (x4 + 5).toNatClampNeg)), (.int (E.2.2 (x4 + 4).toNatClampNeg)), (.int (E.2.2 (x4 + 3).toNatClampNeg)), (.int (E.2.2 (x4 + 2).toNatClampNeg)), (.int (E.2.2 (x4 + 1).toNatClampNeg)), (.ref 0)]) (I1 := I) (T1 := T) rfl ?_
  obtain ⟨hg, hq⟩ := hq
  refine ev_xald rfl hg ?_
  refine ev_seq 1 (ip' := 483) (loc' := [some (.ref 2000000), some (.ref 0), some (.ref 46), some (.ref 536), some (.int x4), none, none, none]) (st' := [(.ref 536), (.int (E.2.2 (x4 + 8).toNatClampNeg)), (.int (E.2.2 (x4 + 7).toNatClampNeg)), (.int (E.2.2 (x4 + 6).toNatClampNeg)), (.int (E.2.2 (x4 + 5).toNatClampNeg)), (.int (E.2.2 (x4 + 4).toNatClampNeg)), (.int (E.2.2 (x4 + 3).toNatClampNeg)), (.int (E.2.2 (x4 + 2).toNatClampNeg)), (.int (E.2.2 (x4 + 1).toNatClampNeg)), (.ref 0)]) (I1 := I) (T1 := T) rfl ?_
  refine ev_callI rfl rfl rfl (fun v1 I1 T1 hq => ?_) (fun x I1 T1 hq => ?_) hq
  · refine ev_seq 6 (ip' := 490) (loc' := [some (.ref 2000000), some (.ref 0), some (.ref 46), some (.ref 536), some (.int x4), some (.int v1), none, none]) (st' := [(.int (x4 + 1)), (.ref 2000000), (.ref 46)]) (I1 := I1) (T1 := T1) rfl ?_
    obtain ⟨hg, hq⟩ := hq
    refine ev_xald rfl hg ?_
    refine ev_seq 4 (ip' := 495) (loc' := [some (.ref 2000000), some (.ref 0), some (.ref 46), some (.ref 536), some (.int x4), some (.int v1), none, none]) (st' := [(.int (x4 + 2)), (.ref 2000000), (.int (E.2.2 (x4 + 1).toNatClampNeg)), (.ref 46)]) (I1 := I1) (T1 := T1) rfl ?_
    obtain ⟨hg, hq⟩ := hq
    refine ev_xald rfl hg ?_
    refine ev_seq 4 (ip' := 500) (loc' := [some (.ref 2000000), some (.ref 0), some (.ref 46), some (.ref 536), some (.int x4), some (.int v1), none, none]) (st' := [(.int (x4 + 3)), (.ref 2000000), (.int (E.2.2 (x4 + 2).toNatClampNeg)), (.int (E.2.2 (x4 + 1).toNatClampNeg)), (.ref 46)]) (I1 := I1) (T1 := T1) rfl ?_
    obtain ⟨hg, hq⟩ := hq
    refine ev_xald rfl hg ?_
    refine ev_seq 4 (ip' := 505) (loc' := [some (.ref 2000000), some (.ref 0), some (.ref 46), some (.ref 536), some (.int x4), some (.int v1), none, none]) (st' := [(.int (x4 + 4)), (.ref 2000000), (.int (E.2.2 (x4 + 3).toNatClampNeg)), (.int (E.2.2 (x4 + 2).toNatClampNeg)), (.int (E.2.2 (x4 + 1).toNatClampNeg)), (.ref 46)]) (I1 := I1) (T1 := T1) rfl ?_
    obtain ⟨hg, hq⟩ := hq
    refine ev_xald rfl hg ?_
    refine ev_seq 4 (ip' := 510) (loc' := [some (.ref 2000000), some (.ref 0), some (.ref 46), some (.ref 536), some (.int x4), some (.int v1), none, none]) (st' := [(.int (x4 + 5)), (.ref 2000000), (.int (E.2.2 (x4 + 4).toNatClampNeg)), (.int (E.2.2 (x4 + 3).toNatClampNeg)), (.int (E.2.2 (x4 + 2).toNatClampNeg)), (.int (E.2.2 (x4 + 1).toNatClampNeg)), (.ref 46)]) (I1 := I1) (T1 := T1) rfl ?_
    obtain ⟨hg, hq⟩ := hq
    refine ev_xald rfl hg ?_
    refine ev_seq 4 (ip' := 515) (loc' := [some (.ref 2000000), some (.ref 0), some (.ref 46), some (.ref 536), some (.int x4), some (.int v1), none, none]) (st' := [(.int (x4 + 6)), (.ref 2000000), (.int (E.2.2 (x4 + 5).toNatClampNeg)), (.int (E.2.2 (x4 + 4).toNatClampNeg)), (.int (E.2.2 (x4 + 3).toNatClampNeg)), (.int (E.2.2 (x4 + 2).toNatClampNeg)), (.int (E.2.2 (x4 + 1).toNatClampNeg)), (.ref 46)]) (I1 := I1) (T1 := T1) rfl ?_
    obtain ⟨hg, hq⟩ := hq
    refine ev_xald rfl hg ?_
    refine ev_seq 4 (ip' := 520) (loc' := [some (.ref 2000000), some (.ref 0), some (.ref 46), some (.ref 536), some (.int x4), some (.int v1), none, none]) (st' := [(.int (x4 + 7)), (.ref 2000000), (.int (E.2.2 (x4 + 6).toNatClampNeg)), (.int (E.2.2 (x4 + 5).toNatClampNeg)), (.int (E.2.2 (x4 + 4).toNatClampNeg)), (.int (E.2.2 (x4 + 3).toNatClampNeg)), (.int (E.2.2 (x4 + 2).toNatClampNeg)), (.int (E.2.2 (x4 + 1).toNatClampNeg)), (.ref 46)]) (I1 := I1) (T1 := T1) rfl ?_
    obtain ⟨hg, hq⟩ := hq
    refine ev_xald rfl hg ?_
    refine ev_seq 4 (ip' := 525) (loc' := [some (.ref 2000000), some (.ref 0), some (.ref 46), some (.ref 536), some (.int x4), some (.int v1), none, none]) (st' := [(.int (x4 + 8)), (.ref 2000000), (.int (E.2.2 (x4 + 7).toNatClampNeg)), (.int (E.2.2 (x4 + 6).toNatClampNeg)), (.int (E.2.2 (x4 + 5).toNatClampNeg)), (.int (E.2.2 (x4 + 4).toNatClampNeg)), (.int (E.2.2 (x4 + 3).toNatClampNeg)), (.int (E.2.2 (x4 + 2).toNatClampNeg)), (.int (E.2.2 (x4 + 1).toNatClampNeg)), (.ref 46)]) (I1 := I1) (T1 := T1) rfl ?_
    obtain ⟨hg, hq⟩ := hq
    refine ev_xald rfl hg ?_
    refine ev_callI rfl rfl rfl (fun v2 I2 T2 hq => ?_) (fun x I1 T1 hq => ?_) hq
    · refine ev_seq 2 (ip' := 529) (loc' := [some (.ref 2000000), some (.ref 0), some (.ref 46), some (.ref 536), some (.int x4), some (.int v1), some (.int v2), none]) (st' := [(.ref 46)]) (I1 := I2) (T1 := T2) rfl ?_
      refine ev_callI rfl rfl rfl (fun v3 I3 T3 hq => ?_) (fun x I1 T1 hq => ?_) hq
      · refine ev_seq 1 (ip' := 531) (loc' := [some (.ref 2000000), some (.ref 0), some (.ref 46), some (.ref 536), some (.int x4), some (.int v1), some (.int v2), none]) (st' := [(.int v1), (.int v3)]) (I1 := I3) (T1 := T3) rfl ?_
        refine ev_br (p := v3 = v1) (a := 534) (b := 532) (st' := []) inferInstance rfl rfl (fun hb => ?_) (fun hb => ?_)
        · have hq := hq.1 hb
          refine ev_seq 1 (ip' := 535) (loc' := [some (.ref 2000000), some (.ref 0), some (.ref 46), some (.ref 536), some (.int x4), some (.int v1), some (.int v2), none]) (st' := [(.int v1)]) (I1 := I3) (T1 := T3) rfl ?_
          refine ev_br (p := v1 = 0) (a := 536) (b := 545) (st' := []) inferInstance rfl rfl (fun hb => ?_) (fun hb => ?_)
          · have hq := hq.1 hb
            refine ev_seq 6 (ip' := 542) (loc' := [some (.ref 2000000), some (.ref 0), some (.ref 46), some (.ref 536), some (.int x4), some (.int v1), some (.int v2), none]) (st' := [(.int (lg_cmp (T3.1 536 0) v2.toInt64))]) (I1 := I3) (T1 := T3) rfl ?_
            refine ev_br (p := (lg_cmp (T3.1 536 0) v2.toInt64) = 0) (a := 545) (b := 543) (st' := []) inferInstance rfl rfl (fun hb => ?_) (fun hb => ?_)
            · have hq := hq.1 hb
              refine ev_fg [true, true, true, true, true, false, false, true] (loc' := [some (.ref 2000000), some (.ref 0), some (.ref 46), some (.ref 536), some (.int x4), none, none, none]) rfl ?_
              exact s_W_main_545 (T := T3) hq
            · have hq := hq.2 hb
              refine ev_seq 1 (ip' := 544) (loc' := [some (.ref 2000000), some (.ref 0), some (.ref 46), some (.ref 536), some (.int x4), some (.int v1), some (.int v2), none]) (st' := [(.int 0)]) (I1 := I3) (T1 := T3) rfl ?_
              exact ev_ret rfl rfl hq
          · have hq := hq.2 hb
            refine ev_fg [true, true, true, true, true, false, false, true] (loc' := [some (.ref 2000000), some (.ref 0), some (.ref 46), some (.ref 536), some (.int x4), none, none, none]) rfl ?_
            exact s_W_main_545 (T := T3) hq
        · have hq := hq.2 hb
          refine ev_seq 1 (ip' := 533) (loc' := [some (.ref 2000000), some (.ref 0), some (.ref 46), some (.ref 536), some (.int x4), some (.int v1), some (.int v2), none]) (st' := [(.int 0)]) (I1 := I3) (T1 := T3) rfl ?_
          exact ev_ret rfl rfl hq
      · exact hq.elim
    · exact hq.elim
  · exact hq.elim
def t_W_main_580 (E : MEnv) (I : II) (T : TT) (Q : QQ) (x4 : Int32) : Prop := t_W_main_1543 E I T Q x4
theorem s_W_main_580 {E : MEnv} {I : II} {T : TT} {Q : QQ} {x4 : Int32} (hq : t_W_main_580 E I T Q x4) : ev E 0 580 [some (.ref 2000000), some (.ref 0), some (.ref 46), some (.ref 536), some (.int x4), none, none, none] [] I T Q := by
  unfold t_W_main_580 at hq
  refine ev_seq 1 (ip' := 1543) (loc' := [some (.ref 2000000), some (.ref 0), some (.ref 46), some (.ref 536), some (.int x4), none, none, none]) (st' := []) (I1 := I) (T1 := T) rfl ?_
  exact s_W_main_1543 (T := T) hq
def t_W_main_546 (E : MEnv) (I : II) (T : TT) (Q : QQ) (x4 : Int32) : Prop := (¬ (x4 + 1) < 0 ∧ (x4 + 1).toNatClampNeg < E.2.1) ∧ (ev E 207 0 [some (.ref 0), some (.int (E.2.2 (x4 + 1).toNatClampNeg)), some (.ref 536), none] [] I T (KI (fun v1 I1 T1 => (¬ (x4 + 1) < 0 ∧ (x4 + 1).toNatClampNeg < E.2.1) ∧ (ev E 210 0 [some (.ref 46), some (.int (E.2.2 (x4 + 1).toNatClampNeg))] [] I1 T1 (KI (fun v2 I2 T2 => ev E 76 0 [some (.ref 46)] [] I2 T2 (KI (fun v3 I3 T3 => (v3 = v1 → ((v1 = 0 → (((lg_cmp (T3.1 536 0) v2.toInt64) = 0 → (t_W_main_580 E I3 T3 Q x4)) ∧ (¬ ((lg_cmp (T3.1 536 0) v2.toInt64) = 0) → (Q (.inl (some (.int 0))) I3 T3)))) ∧ (¬ (v1 = 0) → (t_W_main_580 E I3 T3 Q x4)))) ∧ (¬ (v3 = v1) → (Q (.inl (some (.int 0))) I3 T3))) (fun _ _ _ => False))) (fun _ _ _ => False)))) (fun _ _ _ => False)))
theorem s_W_main_546 {E : MEnv} {I : II} {T : TT} {Q : QQ} {x4 : Int32} (hq : t_W_main_546 E I T Q x4) : ev E 0 546 [some (.ref 2000000), some (.ref 0), some (.ref 46), some (.ref 536), some (.int x4), none, none, none] [] I T Q := by
  unfold t_W_main_546 at hq
  refine ev_seq 5 (ip' := 551) (loc' := [some (.ref 2000000), some (.ref 0), some (.ref 46), some (.ref 536), some (.int x4), none, none, none]) (st' := [(.int (x4 + 1)), (.ref 2000000), (.ref 0)]) (I1 := I) (T1 := T) rfl ?_
  obtain ⟨hg, hq⟩ := hq
  refine ev_xald rfl hg ?_
  refine ev_seq 1 (ip' := 553) (loc' := [some (.ref 2000000), some (.ref 0), some (.ref 46), some (.ref 536), some (.int x4), none, none, none]) (st' := [(.ref 536), (.int (E.2.2 (x4 + 1).toNatClampNeg)), (.ref 0)]) (I1 := I) (T1 := T) rfl ?_
  refine ev_callI rfl rfl rfl (fun v1 I1 T1 hq => ?_) (fun x I1 T1 hq => ?_) hq
  · refine ev_seq 6 (ip' := 560) (loc' := [some (.ref 2000000), some (.ref 0), some (.ref 46), some (.ref 536), some (.int x4), some (.int v1), none, none]) (st' := [(.int (x4 + 1)), (.ref 2000000), (.ref 46)]) (I1 := I1) (T1 := T1) rfl ?_
    obtain ⟨hg, hq⟩ := hq
    refine ev_xald rfl hg ?_
    refine ev_callI rfl rfl rfl (fun v2 I2 T2 hq => ?_) (fun x I1 T1 hq => ?_) hq
    · refine ev_seq 2 (ip' := 564) (loc' := [some (.ref 2000000), some (.ref 0), some (.ref 46), some (.ref 536), some (.int x4), some (.int v1), some (.int v2), none]) (st' := [(.ref 46)]) (I1 := I2) (T1 := T2) rfl ?_
      refine ev_callI rfl rfl rfl (fun v3 I3 T3 hq => ?_) (fun x I1 T1 hq => ?_) hq
      · refine ev_seq 1 (ip' := 566) (loc' := [some (.ref 2000000), some (.ref 0), some (.ref 46), some (.ref 536), some (.int x4), some (.int v1), some (.int v2), none]) (st' := [(.int v1), (.int v3)]) (I1 := I3) (T1 := T3) rfl ?_
        refine ev_br (p := v3 = v1) (a := 569) (b := 567) (st' := []) inferInstance rfl rfl (fun hb => ?_) (fun hb => ?_)
        · have hq := hq.1 hb
          refine ev_seq 1 (ip' := 570) (loc' := [some (.ref 2000000), some (.ref 0), some (.ref 46), some (.ref 536), some (.int x4), some (.int v1), some (.int v2), none]) (st' := [(.int v1)]) (I1 := I3) (T1 := T3) rfl ?_
          refine ev_br (p := v1 = 0) (a := 571) (b := 580) (st' := []) inferInstance rfl rfl (fun hb => ?_) (fun hb => ?_)
          · have hq := hq.1 hb
            refine ev_seq 6 (ip' := 577) (loc' := [some (.ref 2000000), some (.ref 0), some (.ref 46), some (.ref 536), some (.int x4), some (.int v1), some (.int v2), none]) (st' := [(.int (lg_cmp (T3.1 536 0) v2.toInt64))]) (I1 := I3) (T1 := T3) rfl ?_
            refine ev_br (p := (lg_cmp (T3.1 536 0) v2.toInt64) = 0) (a := 580) (b := 578) (st' := []) inferInstance rfl rfl (fun hb => ?_) (fun hb => ?_)
            · have hq := hq.1 hb
              refine ev_fg [true, true, true, true, true, false, false, true] (loc' := [some (.ref 2000000), some (.ref 0), some (.ref 46), some (.ref 536), some (.int x4), none, none, none]) rfl ?_
              exact s_W_main_580 (T := T3) hq
            · have hq := hq.2 hb
              refine ev_seq 1 (ip' := 579) (loc' := [some (.ref 2000000), some (.ref 0), some (.ref 46), some (.ref 536), some (.int x4), some (.int v1), some (.int v2), none]) (st' := [(.int 0)]) (I1 := I3) (T1 := T3) rfl ?_
              exact ev_ret rfl rfl hq
          · have hq := hq.2 hb
            refine ev_fg [true, true, true, true, true, false, false, true] (loc' := [some (.ref 2000000), some (.ref 0), some (.ref 46), some (.ref 536), some (.int x4), none, none, none]) rfl ?_
            exact s_W_main_580 (T := T3) hq
        · have hq := hq.2 hb
          refine ev_seq 1 (ip' := 568) (loc' := [some (.ref 2000000), some (.ref 0), some (.ref 46), some (.ref 536), some (.int x4), some (.int v1), some (.int v2), none]) (st' := [(.int 0)]) (I1 := I3) (T1 := T3) rfl ?_
          exact ev_ret rfl rfl hq
      · exact hq.elim
    · exact hq.elim
  · exact hq.elim
def t_W_main_581 (E : MEnv) (I : II) (T : TT) (Q : QQ) (x4 : Int32) : Prop := ev E 211 0 [some (.ref 0), none, none] [] I T (KI (fun v1 I1 T1 => ev E 213 0 [some (.ref 46), none] [] I1 T1 (KI (fun v2 I2 T2 => (v1 = v2 → (t_W_main_1543 E I2 T2 Q x4)) ∧ (¬ (v1 = v2) → (Q (.inl (some (.int 0))) I2 T2))) (fun _ _ _ => False))) (fun _ _ _ => False))
theorem s_W_main_581 {E : MEnv} {I : II} {T : TT} {Q : QQ} {x4 : Int32} (hq : t_W_main_581 E I T Q x4) : ev E 0 581 [some (.ref 2000000), some (.ref 0), some (.ref 46), some (.ref 536), some (.int x4), none, none, none] [] I T Q := by
  unfold t_W_main_581 at hq
  refine ev_seq 1 (ip' := 582) (loc' := [some (.ref 2000000), some (.ref 0), some (.ref 46), some (.ref 536), some (.int x4), none, none, none]) (st' := [(.ref 0)]) (I1 := I) (T1 := T) rfl ?_
  refine ev_callI rfl rfl rfl (fun v1 I1 T1 hq => ?_) (fun x I1 T1 hq => ?_) hq
  · refine ev_seq 1 (ip' := 584) (loc' := [some (.ref 2000000), some (.ref 0), some (.ref 46), some (.ref 536), some (.int x4), none, none, none]) (st' := [(.ref 46), (.int v1)]) (I1 := I1) (T1 := T1) rfl ?_
    refine ev_callI rfl rfl rfl (fun v2 I2 T2 hq => ?_) (fun x I1 T1 hq => ?_) hq
    · refine ev_br (p := v1 = v2) (a := 1543) (b := 586) (st' := []) inferInstance rfl rfl (fun hb => ?_) (fun hb => ?_)
      · have hq := hq.1 hb
        exact s_W_main_1543 (T := T2) hq
      · have hq := hq.2 hb
        refine ev_seq 1 (ip' := 587) (loc' := [some (.ref 2000000), some (.ref 0), some (.ref 46), some (.ref 536), some (.int x4), none, none, none]) (st' := [(.int 0)]) (I1 := I2) (T1 := T2) rfl ?_
        exact ev_ret rfl rfl hq
    · exact hq.elim
  · exact hq.elim
def t_W_main_588 (E : MEnv) (I : II) (T : TT) (Q : QQ) (x4 : Int32) : Prop := ev E 214 0 [some (.ref 0), none] [] I T (KI (fun v1 I1 T1 => ev E 215 0 [some (.ref 46), none] [] I1 T1 (KI (fun v2 I2 T2 => (v1 = v2 → (t_W_main_1543 E I2 T2 Q x4)) ∧ (¬ (v1 = v2) → (Q (.inl (some (.int 0))) I2 T2))) (fun _ _ _ => False))) (fun _ _ _ => False))
theorem s_W_main_588 {E : MEnv} {I : II} {T : TT} {Q : QQ} {x4 : Int32} (hq : t_W_main_588 E I T Q x4) : ev E 0 588 [some (.ref 2000000), some (.ref 0), some (.ref 46), some (.ref 536), some (.int x4), none, none, none] [] I T Q := by
  unfold t_W_main_588 at hq
  refine ev_seq 1 (ip' := 589) (loc' := [some (.ref 2000000), some (.ref 0), some (.ref 46), some (.ref 536), some (.int x4), none, none, none]) (st' := [(.ref 0)]) (I1 := I) (T1 := T) rfl ?_
  refine ev_callI rfl rfl rfl (fun v1 I1 T1 hq => ?_) (fun x I1 T1 hq => ?_) hq
  · refine ev_seq 1 (ip' := 591) (loc' := [some (.ref 2000000), some (.ref 0), some (.ref 46), some (.ref 536), some (.int x4), none, none, none]) (st' := [(.ref 46), (.int v1)]) (I1 := I1) (T1 := T1) rfl ?_
    refine ev_callI rfl rfl rfl (fun v2 I2 T2 hq => ?_) (fun x I1 T1 hq => ?_) hq
    · refine ev_br (p := v1 = v2) (a := 1543) (b := 593) (st' := []) inferInstance rfl rfl (fun hb => ?_) (fun hb => ?_)
      · have hq := hq.1 hb
        exact s_W_main_1543 (T := T2) hq
      · have hq := hq.2 hb
        refine ev_seq 1 (ip' := 594) (loc' := [some (.ref 2000000), some (.ref 0), some (.ref 46), some (.ref 536), some (.int x4), none, none, none]) (st' := [(.int 0)]) (I1 := I2) (T1 := T2) rfl ?_
        exact ev_ret rfl rfl hq
    · exact hq.elim
  · exact hq.elim
def t_W_main_639 (E : MEnv) (I : II) (T : TT) (Q : QQ) (x4 : Int32) : Prop := t_W_main_1543 E I T Q x4
theorem s_W_main_639 {E : MEnv} {I : II} {T : TT} {Q : QQ} {x4 : Int32} (hq : t_W_main_639 E I T Q x4) : ev E 0 639 [some (.ref 2000000), some (.ref 0), some (.ref 46), some (.ref 536), some (.int x4), none, none, none] [] I T Q := by
  unfold t_W_main_639 at hq
  refine ev_seq 1 (ip' := 1543) (loc' := [some (.ref 2000000), some (.ref 0), some (.ref 46), some (.ref 536), some (.int x4), none, none, none]) (st' := []) (I1 := I) (T1 := T) rfl ?_
  exact s_W_main_1543 (T := T) hq
def t_W_main_595 (E : MEnv) (I : II) (T : TT) (Q : QQ) (x4 : Int32) : Prop := (¬ (x4 + 1) < 0 ∧ (x4 + 1).toNatClampNeg < E.2.1) ∧ ((¬ (x4 + 2) < 0 ∧ (x4 + 2).toNatClampNeg < E.2.1) ∧ (ev E 216 0 [some (.ref 0), some (.int (E.2.2 (x4 + 1).toNatClampNeg)), some (.int (E.2.2 (x4 + 2).toNatClampNeg)), some (.ref 536), none] [] I T (KI (fun v1 I1 T1 => (¬ (x4 + 1) < 0 ∧ (x4 + 1).toNatClampNeg < E.2.1) ∧ ((¬ (x4 + 2) < 0 ∧ (x4 + 2).toNatClampNeg < E.2.1) ∧ (ev E 224 0 [some (.ref 46), some (.int (E.2.2 (x4 + 1).toNatClampNeg)), some (.int (E.2.2 (x4 + 2).toNatClampNeg))] [] I1 T1 (KI (fun v2 I2 T2 => ev E 76 0 [some (.ref 46)] [] I2 T2 (KI (fun v3 I3 T3 => (v3 = v1 → ((v1 = 0 → (((lg_cmp (T3.1 536 0) v2.toInt64) = 0 → (t_W_main_639 E I3 T3 Q x4)) ∧ (¬ ((lg_cmp (T3.1 536 0) v2.toInt64) = 0) → (Q (.inl (some (.int 0))) I3 T3)))) ∧ (¬ (v1 = 0) → (t_W_main_639 E I3 T3 Q x4)))) ∧ (¬ (v3 = v1) → (Q (.inl (some (.int 0))) I3 T3))) (fun _ _ _ => False))) (fun _ _ _ => False))))) (fun _ _ _ => False))))
theorem s_W_main_595 {E : MEnv} {I : II} {T : TT} {Q : QQ} {x4 : Int32} (hq : t_W_main_595 E I T Q x4) : ev E 0 595 [some (.ref 2000000), some (.ref 0), some (.ref 46), some (.ref 536), some (.int x4), none, none, none] [] I T Q := by
  unfold t_W_main_595 at hq
  refine ev_seq 5 (ip' := 600) (loc' := [some (.ref 2000000), some (.ref 0), some (.ref 46), some (.ref 536), some (.int x4), none, none, none]) (st' := [(.int (x4 + 1)), (.ref 2000000), (.ref 0)]) (I1 := I) (T1 := T) rfl ?_
  obtain ⟨hg, hq⟩ := hq
  refine ev_xald rfl hg ?_
  refine ev_seq 4 (ip' := 605) (loc' := [some (.ref 2000000), some (.ref 0), some (.ref 46), some (.ref 536), some (.int x4), none, none, none]) (st' := [(.int (x4 + 2)), (.ref 2000000), (.int (E.2.2 (x4 + 1).toNatClampNeg)), (.ref 0)]) (I1 := I) (T1 := T) rfl ?_
  obtain ⟨hg, hq⟩ := hq
  refine ev_xald rfl hg ?_
  refine ev_seq 1 (ip' := 607) (loc' := [some (.ref 2000000), some (.ref 0), some (.ref 46), some (.ref 536), some (.int x4), none, none, none]) (st' := [(.ref 536), (.int (E.2.2 (x4 + 2).toNatClampNeg)), (.int (E.2.2 (x4 + 1).toNatClampNeg)), (.ref 0)]) (I1 := I) (T1 := T) rfl ?_
  refine ev_callI rfl rfl rfl (fun v1 I1 T1 hq => ?_) (fun x I1 T1 hq => ?_) hq
  · refine ev_seq 6 (ip' := 614) (loc' := [some (.ref 2000000), some (.ref 0), some (.ref 46), some (.ref 536), some (.int x4), some (.int v1), none, none]) (st' := [(.int (x4 + 1)), (.ref 2000000), (.ref 46)]) (I1 := I1) (T1 := T1) rfl ?_
    obtain ⟨hg, hq⟩ := hq
    refine ev_xald rfl hg ?_
    refine ev_seq 4 (ip' := 619) (loc' := [some (.ref 2000000), some (.ref 0), some (.ref 46), some (.ref 536), some (.int x4), some (.int v1), none, none]) (st' := [(.int (x4 + 2)), (.ref 2000000), (.int (E.2.2 (x4 + 1).toNatClampNeg)), (.ref 46)]) (I1 := I1) (T1 := T1) rfl ?_
    obtain ⟨hg, hq⟩ := hq
    refine ev_xald rfl hg ?_
    refine ev_callI rfl rfl rfl (fun v2 I2 T2 hq => ?_) (fun x I1 T1 hq => ?_) hq
    · refine ev_seq 2 (ip' := 623) (loc' := [some (.ref 2000000), some (.ref 0), some (.ref 46), some (.ref 536), some (.int x4), some (.int v1), some (.int v2), none]) (st' := [(.ref 46)]) (I1 := I2) (T1 := T2) rfl ?_
      refine ev_callI rfl rfl rfl (fun v3 I3 T3 hq => ?_) (fun x I1 T1 hq => ?_) hq
      · refine ev_seq 1 (ip' := 625) (loc' := [some (.ref 2000000), some (.ref 0), some (.ref 46), some (.ref 536), some (.int x4), some (.int v1), some (.int v2), none]) (st' := [(.int v1), (.int v3)]) (I1 := I3) (T1 := T3) rfl ?_
        refine ev_br (p := v3 = v1) (a := 628) (b := 626) (st' := []) inferInstance rfl rfl (fun hb => ?_) (fun hb => ?_)
        · have hq := hq.1 hb
          refine ev_seq 1 (ip' := 629) (loc' := [some (.ref 2000000), some (.ref 0), some (.ref 46), some (.ref 536), some (.int x4), some (.int v1), some (.int v2), none]) (st' := [(.int v1)]) (I1 := I3) (T1 := T3) rfl ?_
          refine ev_br (p := v1 = 0) (a := 630) (b := 639) (st' := []) inferInstance rfl rfl (fun hb => ?_) (fun hb => ?_)
          · have hq := hq.1 hb
            refine ev_seq 6 (ip' := 636) (loc' := [some (.ref 2000000), some (.ref 0), some (.ref 46), some (.ref 536), some (.int x4), some (.int v1), some (.int v2), none]) (st' := [(.int (lg_cmp (T3.1 536 0) v2.toInt64))]) (I1 := I3) (T1 := T3) rfl ?_
            refine ev_br (p := (lg_cmp (T3.1 536 0) v2.toInt64) = 0) (a := 639) (b := 637) (st' := []) inferInstance rfl rfl (fun hb => ?_) (fun hb => ?_)
            · have hq := hq.1 hb
              refine ev_fg [true, true, true, true, true, false, false, true] (loc' := [some (.ref 2000000), some (.ref 0), some (.ref 46), some (.ref 536), some (.int x4), none, none, none]) rfl ?_
              exact s_W_main_639 (T := T3) hq
            · have hq := hq.2 hb
              refine ev_seq 1 (ip' := 638) (loc' := [some (.ref 2000000), some (.ref 0), some (.ref 46), some (.ref 536), some (.int x4), some (.int v1), some (.int v2), none]) (st' := [(.int 0)]) (I1 := I3) (T1 := T3) rfl ?_
              exact ev_ret rfl rfl hq
          · have hq := hq.2 hb
            refine ev_fg [true, true, true, true, true, false, false, true] (loc' := [some (.ref 2000000), some (.ref 0), some (.ref 46), some (.ref 536), some (.int x4), none, none, none]) rfl ?_
            exact s_W_main_639 (T := T3) hq
        · have hq := hq.2 hb
          refine ev_seq 1 (ip' := 627) (loc' := [some (.ref 2000000), some (.ref 0), some (.ref 46), some (.ref 536), some (.int x4), some (.int v1), some (.int v2), none]) (st' := [(.int 0)]) (I1 := I3) (T1 := T3) rfl ?_
          exact ev_ret rfl rfl hq
      · exact hq.elim
    · exact hq.elim
  · exact hq.elim
def t_W_main_684 (E : MEnv) (I : II) (T : TT) (Q : QQ) (x4 : Int32) : Prop := t_W_main_1543 E I T Q x4
theorem s_W_main_684 {E : MEnv} {I : II} {T : TT} {Q : QQ} {x4 : Int32} (hq : t_W_main_684 E I T Q x4) : ev E 0 684 [some (.ref 2000000), some (.ref 0), some (.ref 46), some (.ref 536), some (.int x4), none, none, none] [] I T Q := by
  unfold t_W_main_684 at hq
  refine ev_seq 1 (ip' := 1543) (loc' := [some (.ref 2000000), some (.ref 0), some (.ref 46), some (.ref 536), some (.int x4), none, none, none]) (st' := []) (I1 := I) (T1 := T) rfl ?_
  exact s_W_main_1543 (T := T) hq
def t_W_main_640 (E : MEnv) (I : II) (T : TT) (Q : QQ) (x4 : Int32) : Prop := (¬ (x4 + 1) < 0 ∧ (x4 + 1).toNatClampNeg < E.2.1) ∧ ((¬ (x4 + 2) < 0 ∧ (x4 + 2).toNatClampNeg < E.2.1) ∧ (ev E 228 0 [some (.ref 0), some (.int (E.2.2 (x4 + 1).toNatClampNeg)), some (.int (E.2.2 (x4 + 2).toNatClampNeg)), some (.ref 536), none] [] I T (KI (fun v1 I1 T1 => (¬ (x4 + 1) < 0 ∧ (x4 + 1).toNatClampNeg < E.2.1) ∧ ((¬ (x4 + 2) < 0 ∧ (x4 + 2).toNatClampNeg < E.2.1) ∧ (ev E 231 0 [some (.ref 46), some (.int (E.2.2 (x4 + 1).toNatClampNeg)), some (.int (E.2.2 (x4 + 2).toNatClampNeg))] [] I1 T1 (KI (fun v2 I2 T2 => ev E 76 0 [some (.ref 46)] [] I2 T2 (KI (fun v3 I3 T3 => (v3 = v1 → ((v1 = 0 → (((lg_cmp (T3.1 536 0) v2.toInt64) = 0 → (t_W_main_684 E I3 T3 Q x4)) ∧ (¬ ((lg_cmp (T3.1 536 0) v2.toInt64) = 0) → (Q (.inl (some (.int 0))) I3 T3)))) ∧ (¬ (v1 = 0) → (t_W_main_684 E I3 T3 Q x4)))) ∧ (¬ (v3 = v1) → (Q (.inl (some (.int 0))) I3 T3))) (fun _ _ _ => False))) (fun _ _ _ => False))))) (fun _ _ _ => False))))
theorem s_W_main_640 {E : MEnv} {I : II} {T : TT} {Q : QQ} {x4 : Int32} (hq : t_W_main_640 E I T Q x4) : ev E 0 640 [some (.ref 2000000), some (.ref 0), some (.ref 46), some (.ref 536), some (.int x4), none, none, none] [] I T Q := by
  unfold t_W_main_640 at hq
  refine ev_seq 5 (ip' := 645) (loc' := [some (.ref 2000000), some (.ref 0), some (.ref 46), some (.ref 536), some (.int x4), none, none, none]) (st' := [(.int (x4 + 1)), (.ref 2000000), (.ref 0)]) (I1 := I) (T1 := T) rfl ?_
  obtain ⟨hg, hq⟩ := hq
  refine ev_xald rfl hg ?_
  refine ev_seq 4 (ip' := 650) (loc' := [some (.ref 2000000), some (.ref 0), some (.ref 46), some (.ref 536), some (.int x4), none, none, none]) (st' := [(.int (x4 + 2)), (.ref 2000000), (.int (E.2.2 (x4 + 1).toNatClampNeg)), (.ref 0)]) (I1 := I) (T1 := T) rfl ?_
  obtain ⟨hg, hq⟩ := hq
  refine ev_xald rfl hg ?_
  refine ev_seq 1 (ip' := 652) (loc' := [some (.ref 2000000), some (.ref 0), some (.ref 46), some (.ref 536), some (.int x4), none, none, none]) (st' := [(.ref 536), (.int (E.2.2 (x4 + 2).toNatClampNeg)), (.int (E.2.2 (x4 + 1).toNatClampNeg)), (.ref 0)]) (I1 := I) (T1 := T) rfl ?_
  refine ev_callI rfl rfl rfl (fun v1 I1 T1 hq => ?_) (fun x I1 T1 hq => ?_) hq
  · refine ev_seq 6 (ip' := 659) (loc' := [some (.ref 2000000), some (.ref 0), some (.ref 46), some (.ref 536), some (.int x4), some (.int v1), none, none]) (st' := [(.int (x4 + 1)), (.ref 2000000), (.ref 46)]) (I1 := I1) (T1 := T1) rfl ?_
    obtain ⟨hg, hq⟩ := hq
    refine ev_xald rfl hg ?_
    refine ev_seq 4 (ip' := 664) (loc' := [some (.ref 2000000), some (.ref 0), some (.ref 46), some (.ref 536), some (.int x4), some (.int v1), none, none]) (st' := [(.int (x4 + 2)), (.ref 2000000), (.int (E.2.2 (x4 + 1).toNatClampNeg)), (.ref 46)]) (I1 := I1) (T1 := T1) rfl ?_
    obtain ⟨hg, hq⟩ := hq
    refine ev_xald rfl hg ?_
    refine ev_callI rfl rfl rfl (fun v2 I2 T2 hq => ?_) (fun x I1 T1 hq => ?_) hq
    · refine ev_seq 2 (ip' := 668) (loc' := [some (.ref 2000000), some (.ref 0), some (.ref 46), some (.ref 536), some (.int x4), some (.int v1), some (.int v2), none]) (st' := [(.ref 46)]) (I1 := I2) (T1 := T2) rfl ?_
      refine ev_callI rfl rfl rfl (fun v3 I3 T3 hq => ?_) (fun x I1 T1 hq => ?_) hq
      · refine ev_seq 1 (ip' := 670) (loc' := [some (.ref 2000000), some (.ref 0), some (.ref 46), some (.ref 536), some (.int x4), some (.int v1), some (.int v2), none]) (st' := [(.int v1), (.int v3)]) (I1 := I3) (T1 := T3) rfl ?_
        refine ev_br (p := v3 = v1) (a := 673) (b := 671) (st' := []) inferInstance rfl rfl (fun hb => ?_) (fun hb => ?_)
        · have hq := hq.1 hb
          refine ev_seq 1 (ip' := 674) (loc' := [some (.ref 2000000), some (.ref 0), some (.ref 46), some (.ref 536), some (.int x4), some (.int v1), some (.int v2), none]) (st' := [(.int v1)]) (I1 := I3) (T1 := T3) rfl ?_
          refine ev_br (p := v1 = 0) (a := 675) (b := 684) (st' := []) inferInstance rfl rfl (fun hb => ?_) (fun hb => ?_)
          · have hq := hq.1 hb
            refine ev_seq 6 (ip' := 681) (loc' := [some (.ref 2000000), some (.ref 0), some (.ref 46), some (.ref 536), some (.int x4), some (.int v1), some (.int v2), none]) (st' := [(.int (lg_cmp (T3.1 536 0) v2.toInt64))]) (I1 := I3) (T1 := T3) rfl ?_
            refine ev_br (p := (lg_cmp (T3.1 536 0) v2.toInt64) = 0) (a := 684) (b := 682) (st' := []) inferInstance rfl rfl (fun hb => ?_) (fun hb => ?_)
            · have hq := hq.1 hb
              refine ev_fg [true, true, true, true, true, false, false, true] (loc' := [some (.ref 2000000), some (.ref 0), some (.ref 46), some (.ref 536), some (.int x4), none, none, none]) rfl ?_
              exact s_W_main_684 (T := T3) hq
            · have hq := hq.2 hb
              refine ev_seq 1 (ip' := 683) (loc' := [some (.ref 2000000), some (.ref 0), some (.ref 46), some (.ref 536), some (.int x4), some (.int v1), some (.int v2), none]) (st' := [(.int 0)]) (I1 := I3) (T1 := T3) rfl ?_
              exact ev_ret rfl rfl hq
          · have hq := hq.2 hb
            refine ev_fg [true, true, true, true, true, false, false, true] (loc' := [some (.ref 2000000), some (.ref 0), some (.ref 46), some (.ref 536), some (.int x4), none, none, none]) rfl ?_
            exact s_W_main_684 (T := T3) hq
        · have hq := hq.2 hb
          refine ev_seq 1 (ip' := 672) (loc' := [some (.ref 2000000), some (.ref 0), some (.ref 46), some (.ref 536), some (.int x4), some (.int v1), some (.int v2), none]) (st' := [(.int 0)]) (I1 := I3) (T1 := T3) rfl ?_
          exact ev_ret rfl rfl hq
      · exact hq.elim
    · exact hq.elim
  · exact hq.elim
def t_W_main_685 (E : MEnv) (I : II) (T : TT) (Q : QQ) (x4 : Int32) : Prop := ev E 232 0 [some (.ref 0)] [] I T (KI (fun v1 I1 T1 => ev E 236 0 [some (.ref 46)] [] I1 T1 (KI (fun v2 I2 T2 => (v1 = v2 → (t_W_main_1543 E I2 T2 Q x4)) ∧ (¬ (v1 = v2) → (Q (.inl (some (.int 0))) I2 T2))) (fun _ _ _ => False))) (fun _ _ _ => False))
theorem s_W_main_685 {E : MEnv} {I : II} {T : TT} {Q : QQ} {x4 : Int32} (hq : t_W_main_685 E I T Q x4) : ev E 0 685 [some (.ref 2000000), some (.ref 0), some (.ref 46), some (.ref 536), some (.int x4), none, none, none] [] I T Q := by
  unfold t_W_main_685 at hq
  refine ev_seq 1 (ip' := 686) (loc' := [some (.ref 2000000), some (.ref 0), some (.ref 46), some (.ref 536), some (.int x4), none, none, none]) (st' := [(.ref 0)]) (I1 := I) (T1 := T) rfl ?_
  refine ev_callI rfl rfl rfl (fun v1 I1 T1 hq => ?_) (fun x I1 T1 hq => ?_) hq
  · refine ev_seq 1 (ip' := 688) (loc' := [some (.ref 2000000), some (.ref 0), some (.ref 46), some (.ref 536), some (.int x4), none, none, none]) (st' := [(.ref 46), (.int v1)]) (I1 := I1) (T1 := T1) rfl ?_
    refine ev_callI rfl rfl rfl (fun v2 I2 T2 hq => ?_) (fun x I1 T1 hq => ?_) hq
    · refine ev_br (p := v1 = v2) (a := 1543) (b := 690) (st' := []) inferInstance rfl rfl (fun hb => ?_) (fun hb => ?_)
      · have hq := hq.1 hb
        exact s_W_main_1543 (T := T2) hq
      · have hq := hq.2 hb
        refine ev_seq 1 (ip' := 691) (loc' := [some (.ref 2000000), some (.ref 0), some (.ref 46), some (.ref 536), some (.int x4), none, none, none]) (st' := [(.int 0)]) (I1 := I2) (T1 := T2) rfl ?_
        exact ev_ret rfl rfl hq
    · exact hq.elim
  · exact hq.elim
def t_W_main_726 (E : MEnv) (I : II) (T : TT) (Q : QQ) (x4 : Int32) : Prop := t_W_main_1543 E I T Q x4
theorem s_W_main_726 {E : MEnv} {I : II} {T : TT} {Q : QQ} {x4 : Int32} (hq : t_W_main_726 E I T Q x4) : ev E 0 726 [some (.ref 2000000), some (.ref 0), some (.ref 46), some (.ref 536), some (.int x4), none, none, none] [] I T Q := by
  unfold t_W_main_726 at hq
  refine ev_seq 1 (ip' := 1543) (loc' := [some (.ref 2000000), some (.ref 0), some (.ref 46), some (.ref 536), some (.int x4), none, none, none]) (st' := []) (I1 := I) (T1 := T) rfl ?_
  exact s_W_main_1543 (T := T) hq
def t_W_main_692 (E : MEnv) (I : II) (T : TT) (Q : QQ) (x4 : Int32) : Prop := (¬ (x4 + 1) < 0 ∧ (x4 + 1).toNatClampNeg < E.2.1) ∧ (ev E 239 0 [some (.ref 0), some (.int (E.2.2 (x4 + 1).toNatClampNeg)), some (.ref 536), none] [] I T (KI (fun v1 I1 T1 => (¬ (x4 + 1) < 0 ∧ (x4 + 1).toNatClampNeg < E.2.1) ∧ (ev E 242 0 [some (.ref 46), some (.int (E.2.2 (x4 + 1).toNatClampNeg))] [] I1 T1 (KI (fun v2 I2 T2 => ev E 76 0 [some (.ref 46)] [] I2 T2 (KI (fun v3 I3 T3 => (v3 = v1 → ((v1 = 0 → (((lg_cmp (T3.1 536 0) v2.toInt64) = 0 → (t_W_main_726 E I3 T3 Q x4)) ∧ (¬ ((lg_cmp (T3.1 536 0) v2.toInt64) = 0) → (Q (.inl (some (.int 0))) I3 T3)))) ∧ (¬ (v1 = 0) → (t_W_main_726 E I3 T3 Q x4)))) ∧ (¬ (v3 = v1) → (Q (.inl (some (.int 0))) I3 T3))) (fun _ _ _ => False))) (fun _ _ _ => False)))) (fun _ _ _ => False)))
theorem s_W_main_692 {E : MEnv} {I : II} {T : TT} {Q : QQ} {x4 : Int32} (hq : t_W_main_692 E I T Q x4) : ev E 0 692 [some (.ref 2000000), some (.ref 0), some (.ref 46), some (.ref 536), some (.int x4), none, none, none] [] I T Q := by
  unfold t_W_main_692 at hq
  refine ev_seq 5 (ip' := 697) (loc' := [some (.ref 2000000), some (.ref 0), some (.ref 46), some (.ref 536), some (.int x4), none, none, none]) (st' := [(.int (x4 + 1)), (.ref 2000000), (.ref 0)]) (I1 := I) (T1 := T) rfl ?_
  obtain ⟨hg, hq⟩ := hq
  refine ev_xald rfl hg ?_
  refine ev_seq 1 (ip' := 699) (loc' := [some (.ref 2000000), some (.ref 0), some (.ref 46), some (.ref 536), some (.int x4), none, none, none]) (st' := [(.ref 536), (.int (E.2.2 (x4 + 1).toNatClampNeg)), (.ref 0)]) (I1 := I) (T1 := T) rfl ?_
  refine ev_callI rfl rfl rfl (fun v1 I1 T1 hq => ?_) (fun x I1 T1 hq => ?_) hq
  · refine ev_seq 6 (ip' := 706) (loc' := [some (.ref 2000000), some (.ref 0), some (.ref 46), some (.ref 536), some (.int x4), some (.int v1), none, none]) (st' := [(.int (x4 + 1)), (.ref 2000000), (.ref 46)]) (I1 := I1) (T1 := T1) rfl ?_
    obtain ⟨hg, hq⟩ := hq
    refine ev_xald rfl hg ?_
    refine ev_callI rfl rfl rfl (fun v2 I2 T2 hq => ?_) (fun x I1 T1 hq => ?_) hq
    · refine ev_seq 2 (ip' := 710) (loc' := [some (.ref 2000000), some (.ref 0), some (.ref 46), some (.ref 536), some (.int x4), some (.int v1), some (.int v2), none]) (st' := [(.ref 46)]) (I1 := I2) (T1 := T2) rfl ?_
      refine ev_callI rfl rfl rfl (fun v3 I3 T3 hq => ?_) (fun x I1 T1 hq => ?_) hq
      · refine ev_seq 1 (ip' := 712) (loc' := [some (.ref 2000000), some (.ref 0), some (.ref 46), some (.ref 536), some (.int x4), some (.int v1), some (.int v2), none]) (st' := [(.int v1), (.int v3)]) (I1 := I3) (T1 := T3) rfl ?_
        refine ev_br (p := v3 = v1) (a := 715) (b := 713) (st' := []) inferInstance rfl rfl (fun hb => ?_) (fun hb => ?_)
        · have hq := hq.1 hb
          refine ev_seq 1 (ip' := 716) (loc' := [some (.ref 2000000), some (.ref 0), some (.ref 46), some (.ref 536), some (.int x4), some (.int v1), some (.int v2), none]) (st' := [(.int v1)]) (I1 := I3) (T1 := T3) rfl ?_
          refine ev_br (p := v1 = 0) (a := 717) (b := 726) (st' := []) inferInstance rfl rfl (fun hb => ?_) (fun hb => ?_)
          · have hq := hq.1 hb
            refine ev_seq 6 (ip' := 723) (loc' := [some (.ref 2000000), some (.ref 0), some (.ref 46), some (.ref 536), some (.int x4), some (.int v1), some (.int v2), none]) (st' := [(.int (lg_cmp (T3.1 536 0) v2.toInt64))]) (I1 := I3) (T1 := T3) rfl ?_
            refine ev_br (p := (lg_cmp (T3.1 536 0) v2.toInt64) = 0) (a := 726) (b := 724) (st' := []) inferInstance rfl rfl (fun hb => ?_) (fun hb => ?_)
            · have hq := hq.1 hb
              refine ev_fg [true, true, true, true, true, false, false, true] (loc' := [some (.ref 2000000), some (.ref 0), some (.ref 46), some (.ref 536), some (.int x4), none, none, none]) rfl ?_
              exact s_W_main_726 (T := T3) hq
            · have hq := hq.2 hb
              refine ev_seq 1 (ip' := 725) (loc' := [some (.ref 2000000), some (.ref 0), some (.ref 46), some (.ref 536), some (.int x4), some (.int v1), some (.int v2), none]) (st' := [(.int 0)]) (I1 := I3) (T1 := T3) rfl ?_
              exact ev_ret rfl rfl hq
          · have hq := hq.2 hb
            refine ev_fg [true, true, true, true, true, false, false, true] (loc' := [some (.ref 2000000), some (.ref 0), some (.ref 46), some (.ref 536), some (.int x4), none, none, none]) rfl ?_
            exact s_W_main_726 (T := T3) hq
        · have hq := hq.2 hb
          refine ev_seq 1 (ip' := 714) (loc' := [some (.ref 2000000), some (.ref 0), some (.ref 46), some (.ref 536), some (.int x4), some (.int v1), some (.int v2), none]) (st' := [(.int 0)]) (I1 := I3) (T1 := T3) rfl ?_
          exact ev_ret rfl rfl hq
      · exact hq.elim
    · exact hq.elim
  · exact hq.elim
def t_W_main_761 (E : MEnv) (I : II) (T : TT) (Q : QQ) (x4 : Int32) : Prop := t_W_main_1543 E I T Q x4
theorem s_W_main_761 {E : MEnv} {I : II} {T : TT} {Q : QQ} {x4 : Int32} (hq : t_W_main_761 E I T Q x4) : ev E 0 761 [some (.ref 2000000), some (.ref 0), some (.ref 46), some (.ref 536), some (.int x4), none, none, none] [] I T Q := by
  unfold t_W_main_761 at hq
  refine ev_seq 1 (ip' := 1543) (loc' := [some (.ref 2000000), some (.ref 0), some (.ref 46), some (.ref 536), some (.int x4), none, none, none]) (st' := []) (I1 := I) (T1 := T) rfl ?_
  exact s_W_main_1543 (T := T) hq
def t_W_main_727 (E : MEnv) (I : II) (T : TT) (Q : QQ) (x4 : Int32) : Prop := (¬ (x4 + 1) < 0 ∧ (x4 + 1).toNatClampNeg < E.2.1) ∧ (ev E 243 0 [some (.ref 0), some (.int (E.2.2 (x4 + 1).toNatClampNeg)), some (.ref 536), none] [] I T (KI (fun v1 I1 T1 => (¬ (x4 + 1) < 0 ∧ (x4 + 1).toNatClampNeg < E.2.1) ∧ (ev E 246 0 [some (.ref 46), some (.int (E.2.2 (x4 + 1).toNatClampNeg)), none, none, none, none, none] [] I1 T1 (KI (fun v2 I2 T2 => ev E 76 0 [some (.ref 46)] [] I2 T2 (KI (fun v3 I3 T3 => (v3 = v1 → ((v1 = 0 → (((lg_cmp (T3.1 536 0) v2.toInt64) = 0 → (t_W_main_761 E I3 T3 Q x4)) ∧ (¬ ((lg_cmp (T3.1 536 0) v2.toInt64) = 0) → (Q (.inl (some (.int 0))) I3 T3)))) ∧ (¬ (v1 = 0) → (t_W_main_761 E I3 T3 Q x4)))) ∧ (¬ (v3 = v1) → (Q (.inl (some (.int 0))) I3 T3))) (fun _ _ _ => False))) (fun _ _ _ => False)))) (fun _ _ _ => False)))
theorem s_W_main_727 {E : MEnv} {I : II} {T : TT} {Q : QQ} {x4 : Int32} (hq : t_W_main_727 E I T Q x4) : ev E 0 727 [some (.ref 2000000), some (.ref 0), some (.ref 46), some (.ref 536), some (.int x4), none, none, none] [] I T Q := by
  unfold t_W_main_727 at hq
  refine ev_seq 5 (ip' := 732) (loc' := [some (.ref 2000000), some (.ref 0), some (.ref 46), some (.ref 536), some (.int x4), none, none, none]) (st' := [(.int (x4 + 1)), (.ref 2000000), (.ref 0)]) (I1 := I) (T1 := T) rfl ?_
  obtain ⟨hg, hq⟩ := hq
  refine ev_xald rfl hg ?_
  refine ev_seq 1 (ip' := 734) (loc' := [some (.ref 2000000), some (.ref 0), some (.ref 46), some (.ref 536), some (.int x4), none, none, none]) (st' := [(.ref 536), (.int (E.2.2 (x4 + 1).toNatClampNeg)), (.ref 0)]) (I1 := I) (T1 := T) rfl ?_
  refine ev_callI rfl rfl rfl (fun v1 I1 T1 hq => ?_) (fun x I1 T1 hq => ?_) hq
  · refine ev_seq 6 (ip' := 741) (loc' := [some (.ref 2000000), some (.ref 0), some (.ref 46), some (.ref 536), some (.int x4), some (.int v1), none, none]) (st' := [(.int (x4 + 1)), (.ref 2000000), (.ref 46)]) (I1 := I1) (T1 := T1) rfl ?_
    obtain ⟨hg, hq⟩ := hq
    refine ev_xald rfl hg ?_
    refine ev_callI rfl rfl rfl (fun v2 I2 T2 hq => ?_) (fun x I1 T1 hq => ?_) hq
    · refine ev_seq 2 (ip' := 745) (loc' := [some (.ref 2000000), some (.ref 0), some (.ref 46), some (.ref 536), some (.int x4), some (.int v1), some (.int v2), none]) (st' := [(.ref 46)]) (I1 := I2) (T1 := T2) rfl ?_
      refine ev_callI rfl rfl rfl (fun v3 I3 T3 hq => ?_) (fun x I1 T1 hq => ?_) hq
      · refine ev_seq 1 (ip' := 747) (loc' := [some (.ref 2000000), some (.ref 0), some (.ref 46), some (.ref 536), some (.int x4), some (.int v1), some (.int v2), none]) (st' := [(.int v1), (.int v3)]) (I1 := I3) (T1 := T3) rfl ?_
        refine ev_br (p := v3 = v1) (a := 750) (b := 748) (st' := []) inferInstance rfl rfl (fun hb => ?_) (fun hb => ?_)
        · have hq := hq.1 hb
          refine ev_seq 1 (ip' := 751) (loc' := [some (.ref 2000000), some (.ref 0), some (.ref 46), some (.ref 536), some (.int x4), some (.int v1), some (.int v2), none]) (st' := [(.int v1)]) (I1 := I3) (T1 := T3) rfl ?_
          refine ev_br (p := v1 = 0) (a := 752) (b := 761) (st' := []) inferInstance rfl rfl (fun hb => ?_) (fun hb => ?_)
          · have hq := hq.1 hb
            refine ev_seq 6 (ip' := 758) (loc' := [some (.ref 2000000), some (.ref 0), some (.ref 46), some (.ref 536), some (.int x4), some (.int v1), some (.int v2), none]) (st' := [(.int (lg_cmp (T3.1 536 0) v2.toInt64))]) (I1 := I3) (T1 := T3) rfl ?_
            refine ev_br (p := (lg_cmp (T3.1 536 0) v2.toInt64) = 0) (a := 761) (b := 759) (st' := []) inferInstance rfl rfl (fun hb => ?_) (fun hb => ?_)
            · have hq := hq.1 hb
              refine ev_fg [true, true, true, true, true, false, false, true] (loc' := [some (.ref 2000000), some (.ref 0), some (.ref 46), some (.ref 536), some (.int x4), none, none, none]) rfl ?_
              exact s_W_main_761 (T := T3) hq
            · have hq := hq.2 hb
              refine ev_seq 1 (ip' := 760) (loc' := [some (.ref 2000000), some (.ref 0), some (.ref 46), some (.ref 536), some (.int x4), some (.int v1), some (.int v2), none]) (st' := [(.int 0)]) (I1 := I3) (T1 := T3) rfl ?_
              exact ev_ret rfl rfl hq
          · have hq := hq.2 hb
            refine ev_fg [true, true, true, true, true, false, false, true] (loc' := [some (.ref 2000000), some (.ref 0), some (.ref 46), some (.ref 536), some (.int x4), none, none, none]) rfl ?_
            exact s_W_main_761 (T := T3) hq
        · have hq := hq.2 hb
          refine ev_seq 1 (ip' := 749) (loc' := [some (.ref 2000000), some (.ref 0), some (.ref 46), some (.ref 536), some (.int x4), some (.int v1), some (.int v2), none]) (st' := [(.int 0)]) (I1 := I3) (T1 := T3) rfl ?_
          exact ev_ret rfl rfl hq
      · exact hq.elim
    · exact hq.elim
  · exact hq.elim
def t_W_main_796 (E : MEnv) (I : II) (T : TT) (Q : QQ) (x4 : Int32) : Prop := t_W_main_1543 E I T Q x4
theorem s_W_main_796 {E : MEnv} {I : II} {T : TT} {Q : QQ} {x4 : Int32} (hq : t_W_main_796 E I T Q x4) : ev E 0 796 [some (.ref 2000000), some (.ref 0), some (.ref 46), some (.ref 536), some (.int x4), none, none, none] [] I T Q := by
  unfold t_W_main_796 at hq
  refine ev_seq 1 (ip' := 1543) (loc' := [some (.ref 2000000), some (.ref 0), some (.ref 46), some (.ref 536), some (.int x4), none, none, none]) (st' := []) (I1 := I) (T1 := T) rfl ?_
  exact s_W_main_1543 (T := T) hq
def t_W_main_762 (E : MEnv) (I : II) (T : TT) (Q : QQ) (x4 : Int32) : Prop := (¬ (x4 + 1) < 0 ∧ (x4 + 1).toNatClampNeg < E.2.1) ∧ (ev E 247 0 [some (.ref 0), some (.int (E.2.2 (x4 + 1).toNatClampNeg)), some (.ref 536), none] [] I T (KI (fun v1 I1 T1 => (¬ (x4 + 1) < 0 ∧ (x4 + 1).toNatClampNeg < E.2.1) ∧ (ev E 252 0 [some (.ref 46), some (.int (E.2.2 (x4 + 1).toNatClampNeg)), none, none, none, none] [] I1 T1 (KI (fun v2 I2 T2 => ev E 76 0 [some (.ref 46)] [] I2 T2 (KI (fun v3 I3 T3 => (v3 = v1 → ((v1 = 0 → (((lg_cmp (T3.1 536 0) v2.toInt64) = 0 → (t_W_main_796 E I3 T3 Q x4)) ∧ (¬ ((lg_cmp (T3.1 536 0) v2.toInt64) = 0) → (Q (.inl (some (.int 0))) I3 T3)))) ∧ (¬ (v1 = 0) → (t_W_main_796 E I3 T3 Q x4)))) ∧ (¬ (v3 = v1) → (Q (.inl (some (.int 0))) I3 T3))) (fun _ _ _ => False))) (fun _ _ _ => False)))) (fun _ _ _ => False)))
theorem s_W_main_762 {E : MEnv} {I : II} {T : TT} {Q : QQ} {x4 : Int32} (hq : t_W_main_762 E I T Q x4) : ev E 0 762 [some (.ref 2000000), some (.ref 0), some (.ref 46), some (.ref 536), some (.int x4), none, none, none] [] I T Q := by
  unfold t_W_main_762 at hq
  refine ev_seq 5 (ip' := 767) (loc' := [some (.ref 2000000), some (.ref 0), some (.ref 46), some (.ref 536), some (.int x4), none, none, none]) (st' := [(.int (x4 + 1)), (.ref 2000000), (.ref 0)]) (I1 := I) (T1 := T) rfl ?_
  obtain ⟨hg, hq⟩ := hq
  refine ev_xald rfl hg ?_
  refine ev_seq 1 (ip' := 769) (loc' := [some (.ref 2000000), some (.ref 0), some (.ref 46), some (.ref 536), some (.int x4), none, none, none]) (st' := [(.ref 536), (.int (E.2.2 (x4 + 1).toNatClampNeg)), (.ref 0)]) (I1 := I) (T1 := T) rfl ?_
  refine ev_callI rfl rfl rfl (fun v1 I1 T1 hq => ?_) (fun x I1 T1 hq => ?_) hq
  · refine ev_seq 6 (ip' := 776) (loc' := [some (.ref 2000000), some (.ref 0), some (.ref 46), some (.ref 536), some (.int x4), some (.int v1), none, none]) (st' := [(.int (x4 + 1)), (.ref 2000000), (.ref 46)]) (I1 := I1) (T1 := T1) rfl ?_
    obtain ⟨hg, hq⟩ := hq
    refine ev_xald rfl hg ?_
    refine ev_callI rfl rfl rfl (fun v2 I2 T2 hq => ?_) (fun x I1 T1 hq => ?_) hq
    · refine ev_seq 2 (ip' := 780) (loc' := [some (.ref 2000000), some (.ref 0), some (.ref 46), some (.ref 536), some (.int x4), some (.int v1), some (.int v2), none]) (st' := [(.ref 46)]) (I1 := I2) (T1 := T2) rfl ?_
      refine ev_callI rfl rfl rfl (fun v3 I3 T3 hq => ?_) (fun x I1 T1 hq => ?_) hq
      · refine ev_seq 1 (ip' := 782) (loc' := [some (.ref 2000000), some (.ref 0), some (.ref 46), some (.ref 536), some (.int x4), some (.int v1), some (.int v2), none]) (st' := [(.int v1), (.int v3)]) (I1 := I3) (T1 := T3) rfl ?_
        refine ev_br (p := v3 = v1) (a := 785) (b := 783) (st' := []) inferInstance rfl rfl (fun hb => ?_) (fun hb => ?_)
        · have hq := hq.1 hb
          refine ev_seq 1 (ip' := 786) (loc' := [some (.ref 2000000), some (.ref 0), some (.ref 46), some (.ref 536), some (.int x4), some (.int v1), some (.int v2), none]) (st' := [(.int v1)]) (I1 := I3) (T1 := T3) rfl ?_
          refine ev_br (p := v1 = 0) (a := 787) (b := 796) (st' := []) inferInstance rfl rfl (fun hb => ?_) (fun hb => ?_)
          · have hq := hq.1 hb
            refine ev_seq 6 (ip' := 793) (loc' := [some (.ref 2000000), some (.ref 0), some (.ref 46), some (.ref 536), some (.int x4), some (.int v1), some (.int v2), none]) (st' := [(.int (lg_cmp (T3.1 536 0) v2.toInt64))]) (I1 := I3) (T1 := T3) rfl ?_
            refine ev_br (p := (lg_cmp (T3.1 536 0) v2.toInt64) = 0) (a := 796) (b := 794) (st' := []) inferInstance rfl rfl (fun hb => ?_) (fun hb => ?_)
            · have hq := hq.1 hb
              refine ev_fg [true, true, true, true, true, false, false, true] (loc' := [some (.ref 2000000), some (.ref 0), some (.ref 46), some (.ref 536), some (.int x4), none, none, none]) rfl ?_
              exact s_W_main_796 (T := T3) hq
            · have hq := hq.2 hb
              refine ev_seq 1 (ip' := 795) (loc' := [some (.ref 2000000), some (.ref 0), some (.ref 46), some (.ref 536), some (.int x4), some (.int v1), some (.int v2), none]) (st' := [(.int 0)]) (I1 := I3) (T1 := T3) rfl ?_
              exact ev_ret rfl rfl hq
          · have hq := hq.2 hb
            refine ev_fg [true, true, true, true, true, false, false, true] (loc' := [some (.ref 2000000), some (.ref 0), some (.ref 46), some (.ref 536), some (.int x4), none, none, none]) rfl ?_
            exact s_W_main_796 (T := T3) hq
        · have hq := hq.2 hb
          refine ev_seq 1 (ip' := 784) (loc' := [some (.ref 2000000), some (.ref 0), some (.ref 46), some (.ref 536), some (.int x4), some (.int v1), some (.int v2), none]) (st' := [(.int 0)]) (I1 := I3) (T1 := T3) rfl ?_
          exact ev_ret rfl rfl hq
      · exact hq.elim
    · exact hq.elim
  · exact hq.elim
def t_W_main_831 (E : MEnv) (I : II) (T : TT) (Q : QQ) (x4 : Int32) : Prop := t_W_main_1543 E I T Q x4
theorem s_W_main_831 {E : MEnv} {I : II} {T : TT} {Q : QQ} {x4 : Int32} (hq : t_W_main_831 E I T Q x4) : ev E 0 831 [some (.ref 2000000), some (.ref 0), some (.ref 46), some (.ref 536), some (.int x4), none, none, none] [] I T Q := by
  unfold t_W_main_831 at hq
  refine ev_seq 1 (ip' := 1543) (loc' := [some (.ref 2000000), some (.ref 0), some (.ref 46), some (.ref 536), some (.int x4), none, none, none]) (st' := []) (I1 := I) (T1 := T) rfl ?_
  exact s_W_main_1543 (T := T) hq
def t_W_main_797 (E : MEnv) (I : II) (T : TT) (Q : QQ) (x4 : Int32) : Prop := (¬ (x4 + 1) < 0 ∧ (x4 + 1).toNatClampNeg < E.2.1) ∧ (ev E 254 0 [some (.ref 0), some (.int (E.2.2 (x4 + 1).toNatClampNeg)), some (.ref 536), none] [] I T (KI (fun v1 I1 T1 => (¬ (x4 + 1) < 0 ∧ (x4 + 1).toNatClampNeg < E.2.1) ∧ (ev E 259 0 [some (.ref 46), some (.int (E.2.2 (x4 + 1).toNatClampNeg)), none, none, none, none] [] I1 T1 (KI (fun v2 I2 T2 => ev E 76 0 [some (.ref 46)] [] I2 T2 (KI (fun v3 I3 T3 => (v3 = v1 → ((v1 = 0 → (((lg_cmp (T3.1 536 0) v2.toInt64) = 0 → (t_W_main_831 E I3 T3 Q x4)) ∧ (¬ ((lg_cmp (T3.1 536 0) v2.toInt64) = 0) → (Q (.inl (some (.int 0))) I3 T3)))) ∧ (¬ (v1 = 0) → (t_W_main_831 E I3 T3 Q x4)))) ∧ (¬ (v3 = v1) → (Q (.inl (some (.int 0))) I3 T3))) (fun _ _ _ => False))) (fun _ _ _ => False)))) (fun _ _ _ => False)))
theorem s_W_main_797 {E : MEnv} {I : II} {T : TT} {Q : QQ} {x4 : Int32} (hq : t_W_main_797 E I T Q x4) : ev E 0 797 [some (.ref 2000000), some (.ref 0), some (.ref 46), some (.ref 536), some (.int x4), none, none, none] [] I T Q := by
  unfold t_W_main_797 at hq
  refine ev_seq 5 (ip' := 802) (loc' := [some (.ref 2000000), some (.ref 0), some (.ref 46), some (.ref 536), some (.int x4), none, none, none]) (st' := [(.int (x4 + 1)), (.ref 2000000), (.ref 0)]) (I1 := I) (T1 := T) rfl ?_
  obtain ⟨hg, hq⟩ := hq
  refine ev_xald rfl hg ?_
  refine ev_seq 1 (ip' := 804) (loc' := [some (.ref 2000000), some (.ref 0), some (.ref 46), some (.ref 536), some (.int x4), none, none, none]) (st' := [(.ref 536), (.int (E.2.2 (x4 + 1).toNatClampNeg)), (.ref 0)]) (I1 := I) (T1 := T) rfl ?_
  refine ev_callI rfl rfl rfl (fun v1 I1 T1 hq => ?_) (fun x I1 T1 hq => ?_) hq
  · refine ev_seq 6 (ip' := 811) (loc' := [some (.ref 2000000), some (.ref 0), some (.ref 46), some (.ref 536), some (.int x4), some (.int v1), none, none]) (st' := [(.int (x4 + 1)), (.ref 2000000), (.ref 46)]) (I1 := I1) (T1 := T1) rfl ?_
    obtain ⟨hg, hq⟩ := hq
    refine ev_xald rfl hg ?_
    refine ev_callI rfl rfl rfl (fun v2 I2 T2 hq => ?_) (fun x I1 T1 hq => ?_) hq
    · refine ev_seq 2 (ip' := 815) (loc' := [some (.ref 2000000), some (.ref 0), some (.ref 46), some (.ref 536), some (.int x4), some (.int v1), some (.int v2), none]) (st' := [(.ref 46)]) (I1 := I2) (T1 := T2) rfl ?_
      refine ev_callI rfl rfl rfl (fun v3 I3 T3 hq => ?_) (fun x I1 T1 hq => ?_) hq
      · refine ev_seq 1 (ip' := 817) (loc' := [some (.ref 2000000), some (.ref 0), some (.ref 46), some (.ref 536), some (.int x4), some (.int v1), some (.int v2), none]) (st' := [(.int v1), (.int v3)]) (I1 := I3) (T1 := T3) rfl ?_
        refine ev_br (p := v3 = v1) (a := 820) (b := 818) (st' := []) inferInstance rfl rfl (fun hb => ?_) (fun hb => ?_)
        · have hq := hq.1 hb
          refine ev_seq 1 (ip' := 821) (loc' := [some (.ref 2000000), some (.ref 0), some (.ref 46), some (.ref 536), some (.int x4), some (.int v1), some (.int v2), none]) (st' := [(.int v1)]) (I1 := I3) (T1 := T3) rfl ?_
          refine ev_br (p := v1 = 0) (a := 822) (b := 831) (st' := []) inferInstance rfl rfl (fun hb => ?_) (fun hb => ?_)
          · have hq := hq.1 hb
            refine ev_seq 6 (ip' := 828) (loc' := [some (.ref 2000000), some (.ref 0), some (.ref 46), some (.ref 536), some (.int x4), some (.int v1), some (.int v2), none]) (st' := [(.int (lg_cmp (T3.1 536 0) v2.toInt64))]) (I1 := I3) (T1 := T3) rfl ?_
            refine ev_br (p := (lg_cmp (T3.1 536 0) v2.toInt64) = 0) (a := 831) (b := 829) (st' := []) inferInstance rfl rfl (fun hb => ?_) (fun hb => ?_)
            · have hq := hq.1 hb
              refine ev_fg [true, true, true, true, true, false, false, true] (loc' := [some (.ref 2000000), some (.ref 0), some (.ref 46), some (.ref 536), some (.int x4), none, none, none]) rfl ?_
              exact s_W_main_831 (T := T3) hq
            · have hq := hq.2 hb
              refine ev_seq 1 (ip' := 830) (loc' := [some (.ref 2000000), some (.ref 0), some (.ref 46), some (.ref 536), some (.int x4), some (.int v1), some (.int v2), none]) (st' := [(.int 0)]) (I1 := I3) (T1 := T3) rfl ?_
              exact ev_ret rfl rfl hq
          · have hq := hq.2 hb
            refine ev_fg [true, true, true, true, true, false, false, true] (loc' := [some (.ref 2000000), some (.ref 0), some (.ref 46), some (.ref 536), some (.int x4), none, none, none]) rfl ?_
            exact s_W_main_831 (T := T3) hq
        · have hq := hq.2 hb
          refine ev_seq 1 (ip' := 819) (loc' := [some (.ref 2000000), some (.ref 0), some (.ref 46), some (.ref 536), some (.int x4), some (.int v1), some (.int v2), none]) (st' := [(.int 0)]) (I1 := I3) (T1 := T3) rfl ?_
          exact ev_ret rfl rfl hq
      · exact hq.elim
    · exact hq.elim
  · exact hq.elim
def t_W_main_886 (E : MEnv) (I : II) (T : TT) (Q : QQ) (x4 : Int32) : Prop := t_W_main_1543 E I T Q x4
theorem s_W_main_886 {E : MEnv} {I : II} {T : TT} {Q : QQ} {x4 : Int32} (hq : t_W_main_886 E I T Q x4) : ev E 0 886 [some (.ref 2000000), some (.ref 0), some (.ref 46), some (.ref 536), some (.int x4), none, none, none] [] I T Q := by
  unfold t_W_main_886 at hq
  refine ev_seq 1 (ip' := 1543) (loc' := [some (.ref 2000000), some (.ref 0), some (.ref 46), some (.ref 536), some (.int x4), none, none, none]) (st' := []) (I1 := I) (T1 := T) rfl ?_
  exact s_W_main_1543 (T := T) hq
def t_W_main_832 (E : MEnv) (I : II) (T : TT) (Q : QQ) (x4 : Int32) : Prop := (¬ (x4 + 1) < 0 ∧ (x4 + 1).toNatClampNeg < E.2.1) ∧ ((¬ (x4 + 2) < 0 ∧ (x4 + 2).toNatClampNeg < E.2.1) ∧ ((¬ (x4 + 3) < 0 ∧ (x4 + 3).toNatClampNeg < E.2.1) ∧ (ev E 262 0 [some (.ref 0), some (.int (E.2.2 (x4 + 1).toNatClampNeg)), some (.int (E.2.2 (x4 + 2).toNatClampNeg)), some (.int (E.2.2 (x4 + 3).toNatClampNeg)), some (.ref 536), none] [] I T (KI (fun v1 I1 T1 => (¬ (x4 + 1) < 0 ∧ (x4 + 1).toNatClampNeg < E.2.1) ∧ ((¬ (x4 + 2) < 0 ∧ (x4 + 2).toNatClampNeg < E.2.1) ∧ ((¬ (x4 + 3) < 0 ∧ (x4 + 3).toNatClampNeg < E.2.1) ∧ (ev E 266 0 [some (.ref 46), some (.int (E.2.2 (x4 + 1).toNatClampNeg)), some (.int (E.2.2 (x4 + 2).toNatClampNeg)), some (.int (E.2.2 (x4 + 3).toNatClampNeg)), none, none, none, none, none] [] I1 T1 (KI (fun v2 I2 T2 => ev E 76 0 [some (.ref 46)] [] I2 T2 (KI (fun v3 I3 T3 => (v3 = v1 → ((v1 = 0 → (((lg_cmp (T3.1 536 0) v2.toInt64) = 0 → (t_W_main_886 E I3 T3 Q x4)) ∧ (¬ ((lg_cmp (T3.1 536 0) v2.toInt64) = 0) → (Q (.inl (some (.int 0))) I3 T3)))) ∧ (¬ (v1 = 0) → (t_W_main_886 E I3 T3 Q x4)))) ∧ (¬ (v3 = v1) → (Q (.inl (some (.int 0))) I3 T3))) (fun _ _ _ => False))) (fun _ _ _ => False)))))) (fun _ _ _ => False)))))
theorem s_W_main_832 {E : MEnv} {I : II} {T : TT} {Q : QQ} {x4 : Int32} (hq : t_W_main_832 E I T Q x4) : ev E 0 832 [some (.ref 2000000), some (.ref 0), some (.ref 46), some (.ref 536), some (.int x4), none, none, none] [] I T Q := by
  unfold t_W_main_832 at hq
  refine ev_seq 5 (ip' := 837) (loc' := [some (.ref 2000000), some (.ref 0), some (.ref 46), some (.ref 536), some (.int x4), none, none, none]) (st' := [(.int (x4 + 1)), (.ref 2000000), (.ref 0)]) (I1 := I) (T1 := T) rfl ?_
  obtain ⟨hg, hq⟩ := hq
  refine ev_xald rfl hg ?_
  refine ev_seq 4 (ip' := 842) (loc' := [some (.ref 2000000), some (.ref 0), some (.ref 46), some (.ref 536), some (.int x4), none, none, none]) (st' := [(.int (x4 + 2)), (.ref 2000000), (.int (E.2.2 (x4 + 1).toNatClampNeg)), (.ref 0)]) (I1 := I) (T1 := T) rfl ?_
  obtain ⟨hg, hq⟩ := hq
  refine ev_xald rfl hg ?_
  refine ev_seq 4 (ip' := 847) (loc' := [some (.ref 2000000), some (.ref 0), some (.ref 46), some (.ref 536), some (.int x4), none, none, none]) (st' := [(.int (x4 + 3)), (.ref 2000000), (.int (E.2.2 (x4 + 2).toNatClampNeg)), (.int (E.2.2 (x4 + 1).toNatClampNeg)), (.ref 0)]) (I1 := I) (T1 := T) rfl ?_
  obtain ⟨hg, hq⟩ := hq
  refine ev_xald rfl hg ?_
  refine ev_seq 1 (ip' := 849) (loc' := [some (.ref 2000000), some (.ref 0), some (.ref 46), some (.ref 536), some (.int x4), none, none, none]) (st' := [(.ref 536), (.int (E.2.2 (x4 + 3).toNatClampNeg)), (.int (E.2.2 (x4 + 2).toNatClampNeg)), (.int (E.2.2 (x4 + 1).toNatClampNeg)), (.ref 0)]) (I1 := I) (T1 := T) rfl ?_
  refine ev_callI rfl rfl rfl (fun v1 I1 T1 hq => ?_) (fun x I1 T1 hq => ?_) hq
  · refine ev_seq 6 (ip' := 856) (loc' := [some (.ref 2000000), some (.ref 0), some (.ref 46), some (.ref 536), some (.int x4), some (.int v1), none, none]) (st' := [(.int (x4 + 1)), (.ref 2000000), (.ref 46)]) (I1 := I1) (T1 := T1) rfl ?_
    obtain ⟨hg, hq⟩ := hq
    refine ev_xald rfl hg ?_
    refine ev_seq 4 (ip' := 861) (loc' := [some (.ref 2000000), some (.ref 0), some (.ref 46), some (.ref 536), some (.int x4), some (.int v1), none, none]) (st' := [(.int (x4 + 2)), (.ref 2000000), (.int (E.2.2 (x4 + 1).toNatClampNeg)), (.ref 46)]) (I1 := I1) (T1 := T1) rfl ?_
    obtain ⟨hg, hq⟩ := hq
    refine ev_xald rfl hg ?_
    refine ev_seq 4 (ip' := 866) (loc' := [some (.ref 2000000), some (.ref 0), some (.ref 46), some (.ref 536), some (.int x4), some (.int v1), none, none]) (st' := [(.int (x4 + 3)), (.ref 2000000), (.int (E.2.2 (x4 + 2).toNatClampNeg)), (.int (E.2.2 (x4 + 1).toNatClampNeg)), (.ref 46)]) (I1 := I1) (T1 := T1) rfl ?_
    obtain ⟨hg, hq⟩ := hq
    refine ev_xald rfl hg ?_
    refine ev_callI rfl rfl rfl (fun v2 I2 T2 hq => ?_) (fun x I1 T1 hq => ?_) hq
    · refine ev_seq 2 (ip' := 870) (loc' := [some (.ref 2000000), some (.ref 0), some (.ref 46), some (.ref 536), some (.int x4), some (.int v1), some (.int v2), none]) (st' := [(.ref 46)]) (I1 := I2) (T1 := T2) rfl ?_
      refine ev_callI rfl rfl rfl (fun v3 I3 T3 hq => ?_) (fun x I1 T1 hq => ?_) hq
      · refine ev_seq 1 (ip' := 872) (loc' := [some (.ref 2000000), some (.ref 0), some (.ref 46), some (.ref 536), some (.int x4), some (.int v1), some (.int v2), none]) (st' := [(.int v1), (.int v3)]) (I1 := I3) (T1 := T3) rfl ?_
        refine ev_br (p := v3 = v1) (a := 875) (b := 873) (st' := []) inferInstance rfl rfl (fun hb => ?_) (fun hb => ?_)
        · have hq := hq.1 hb
          refine ev_seq 1 (ip' := 876) (loc' := [some (.ref 2000000), some (.ref 0), some (.ref 46), some (.ref 536), some (.int x4), some (.int v1), some (.int v2), none]) (st' := [(.int v1)]) (I1 := I3) (T1 := T3) rfl ?_
          refine ev_br (p := v1 = 0) (a := 877) (b := 886) (st' := []) inferInstance rfl rfl (fun hb => ?_) (fun hb => ?_)
          · have hq := hq.1 hb
            refine ev_seq 6 (ip' := 883) (loc' := [some (.ref 2000000), some (.ref 0), some (.ref 46), some (.ref 536), some (.int x4), some (.int v1), some (.int v2), none]) (st' := [(.int (lg_cmp (T3.1 536 0) v2.toInt64))]) (I1 := I3) (T1 := T3) rfl ?_
            refine ev_br (p := (lg_cmp (T3.1 536 0) v2.toInt64) = 0) (a := 886) (b := 884) (st' := []) inferInstance rfl rfl (fun hb => ?_) (fun hb => ?_)
            · have hq := hq.1 hb
              refine ev_fg [true, true, true, true, true, false, false, true] (loc' := [some (.ref 2000000), some (.ref 0), some (.ref 46), some (.ref 536), some (.int x4), none, none, none]) rfl ?_
              exact s_W_main_886 (T := T3) hq
            · have hq := hq.2 hb
              refine ev_seq 1 (ip' := 885) (loc' := [some (.ref 2000000), some (.ref 0), some (.ref 46), some (.ref 536), some (.int x4), some (.int v1), some (.int v2), none]) (st' := [(.int 0)]) (I1 := I3) (T1 := T3) rfl ?_
              exact ev_ret rfl rfl hq
          · have hq := hq.2 hb
            refine ev_fg [true, true, true, true, true, false, false, true] (loc' := [some (.ref 2000000), some (.ref 0), some (.ref 46), some (.ref 536), some (.int x4), none, none, none]) rfl ?_
            exact s_W_main_886 (T := T3) hq
        · have hq := hq.2 hb
          refine ev_seq 1 (ip' := 874) (loc' := [some (.ref 2000000), some (.ref 0), some (.ref 46), some (.ref 536), some (.int x4), some (.int v1), some (.int v2), none]) (st' := [(.int 0)]) (I1 := I3) (T1 := T3) rfl ?_
          exact ev_ret rfl rfl hq
      · exact hq.elim
    · exact hq.elim
  · exact hq.elim
def t_W_main_950 (E : MEnv) (I : II) (T : TT) (Q : QQ) (x4 : Int32) : Prop := t_W_main_1543 E I T Q x4
theorem s_W_main_950 {E : MEnv} {I : II} {T : TT} {Q : QQ} {x4 : Int32} (hq : t_W_main_950 E I T Q x4) : ev E 0 950 [some (.ref 2000000), some (.ref 0), some (.ref 46), some (.ref 536), some (.int x4), none, none, none] [] I T Q := by
  unfold t_W_main_950 at hq
  refine ev_seq 1 (ip' := 1543) (loc' := [some (.ref 2000000), some (.ref 0), some (.ref 46), some (.ref 536), some (.int x4), none, none, none]) (st' := []) (I1 := I) (T1 := T) rfl ?_
  exact s_W_main_1543 (T := T) hq
def t_W_main_887 (E : MEnv) (I : II) (T : TT) (Q : QQ) (x4 : Int32) : Prop := (¬ (x4 + 1) < 0 ∧ (x4 + 1).toNatClampNeg < E.2.1) ∧ ((¬ (x4 + 2) < 0 ∧ (x4 + 2).toNatClampNeg < E.2.1) ∧ ((¬ (x4 + 3) < 0 ∧ (x4 + 3).toNatClampNeg < E.2.1) ∧ ((¬ (x4 + 4) < 0 ∧ (x4 + 4).toNatClampNeg < E.2.1) ∧ (ev E 269 0 [some (.ref 0), some (.int (E.2.2 (x4 + 1).toNatClampNeg)), some (.int (E.2.2 (x4 + 2).toNatClampNeg)), some (.int (E.2.2 (x4 + 3).toNatClampNeg)), some (.int (E.2.2 (x4 + 4).toNatClampNeg)), some (.ref 536), none] [] I T (KI (fun v1 I1 T1 => (¬ (x4 + 1) < 0 ∧ (x4 + 1).toNatClampNeg < E.2.1) ∧ ((¬ (x4 + 2) < 0 ∧ (x4 + 2).toNatClampNeg < E.2.1) ∧ ((¬ (x4 + 3) < 0 ∧ (x4 + 3).toNatClampNeg < E.2.1) ∧ ((¬ (x4 + 4) < 0 ∧ (x4 + 4).toNatClampNeg < E.2.1) ∧ (ev E 274 0 [some (.ref 46), some (.int (E.2.2 (x4 + 1).toNatClampNeg)), some (.int (E.2.2 (x4 + 2).toNatClampNeg)), some (.int (E.2.2 (x4 + 3).toNatClampNeg)), some (.int (E.2.2 (x4 + 4).toNatClampNeg)), none, none, none, none, none, none, none, none, none, none] [] I1 T1 (KL (fun v2 I2 T2 => ev E 76 0 [some (.ref 46)] [] I2 T2 (KI (fun v3 I3 T3 => (v3 = v1 → ((v1 = 0 → (((lg_cmp (T3.1 536 0) v2) = 0 → (t_W_main_950 E I3 T3 Q x4)) ∧ (¬ ((lg_cmp (T3.1 536 0) v2) = 0) → (Q (.inl (some (.int 0))) I3 T3)))) ∧ (¬ (v1 = 0) → (t_W_main_950 E I3 T3 Q x4)))) ∧ (¬ (v3 = v1) → (Q (.inl (some (.int 0))) I3 T3))) (fun _ _ _ => False))) (fun _ _ _ => False))))))) (fun _ _ _ => False))))))
theorem s_W_main_887 {E : MEnv} {I : II} {T : TT} {Q : QQ} {x4 : Int32} (hq : t_W_main_887 E I T Q x4) : ev E 0 887 [some (.ref 2000000), some (.ref 0), some (.ref 46), some (.ref 536), some (.int x4), none, none, none] [] I T Q := by
  unfold t_W_main_887 at hq
  refine ev_seq 5 (ip' := 892) (loc' := [some (.ref 2000000), some (.ref 0), some (.ref 46), some (.ref 536), some (.int x4), none, none, none]) (st' := [(.int (x4 + 1)), (.ref 2000000), (.ref 0)]) (I1 := I) (T1 := T) rfl ?_
  obtain ⟨hg, hq⟩ := hq
  refine ev_xald rfl hg ?_
  refine ev_seq 4 (ip' := 897) (loc' := [some (.ref 2000000), some (.ref 0), some (.ref 46), some (.ref 536), some (.int x4), none, none, none]) (st' := [(.int (x4 + 2)), (.ref 2000000), (.int (E.2.2 (x4 + 1).toNatClampNeg)), (.ref 0)]) (I1 := I) (T1 := T) rfl ?_
  obtain ⟨hg, hq⟩ := hq
  refine ev_xald rfl hg ?_
  refine ev_seq 4 (ip' := 902) (loc' := [some (.ref 2000000), some (.ref 0), some (.ref 46), some (.ref 536), some (.int x4), none, none, none]) (st' := [(.int (x4 + 3)), (.ref 2000000), (.int (E.2.2 (x4 + 2).toNatClampNeg)), (.int (E.2.2 (x4 + 1).toNatClampNeg)), (.ref 0)]) (I1 := I) (T1 := T) rfl ?_
  obtain ⟨hg, hq⟩ := hq
  refine ev_xald rfl hg ?_
  refine ev_seq 4 (ip' := 907) (loc' := [some (.ref 2000000), some (.ref 0), some (.ref 46), some (.ref 536), some (.int x4), none, none, none]) (st' := [(.int (x4 + 4)), (.ref 2000000), (.int (E.2.2 (x4 + 3).toNatClampNeg)), (.int (E.2.2 (x4 + 2).toNatClampNeg)), (.int (E.2.2 (x4 + 1).toNatClampNeg)), (.ref 0)]) (I1 := I) (T1 := T) rfl ?_
  obtain ⟨hg, hq⟩ := hq
  refine ev_xald rfl hg ?_
  refine ev_seq 1 (ip' := 909) (loc' := [some (.ref 2000000), some (.ref 0), some (.ref 46), some (.ref 536), some (.int x4), none, none, none]) (st' := [(.ref 536), (.int (E.2.2 (x4 + 4).toNatClampNeg)), (.int (E.2.2 (x4 + 3).toNatClampNeg)), (.int (E.2.2 (x4 + 2).toNatClampNeg)), (.int (E.2.2 (x4 + 1).toNatClampNeg)), (.ref 0)]) (I1 := I) (T1 := T) rfl ?_
  refine ev_callI rfl rfl rfl (fun v1 I1 T1 hq => ?_) (fun x I1 T1 hq => ?_) hq
  · refine ev_seq 6 (ip' := 916) (loc' := [some (.ref 2000000), some (.ref 0), some (.ref 46), some (.ref 536), some (.int x4), some (.int v1), none, none]) (st' := [(.int (x4 + 1)), (.ref 2000000), (.ref 46)]) (I1 := I1) (T1 := T1) rfl ?_
    obtain ⟨hg, hq⟩ := hq
    refine ev_xald rfl hg ?_
    refine ev_seq 4 (ip' := 921) (loc' := [some (.ref 2000000), some (.ref 0), some (.ref 46), some (.ref 536), some (.int x4), some (.int v1), none, none]) (st' := [(.int (x4 + 2)), (.ref 2000000), (.int (E.2.2 (x4 + 1).toNatClampNeg)), (.ref 46)]) (I1 := I1) (T1 := T1) rfl ?_
    obtain ⟨hg, hq⟩ := hq
    refine ev_xald rfl hg ?_
    refine ev_seq 4 (ip' := 926) (loc' := [some (.ref 2000000), some (.ref 0), some (.ref 46), some (.ref 536), some (.int x4), some (.int v1), none, none]) (st' := [(.int (x4 + 3)), (.ref 2000000), (.int (E.2.2 (x4 + 2).toNatClampNeg)), (.int (E.2.2 (x4 + 1).toNatClampNeg)), (.ref 46)]) (I1 := I1) (T1 := T1) rfl ?_
    obtain ⟨hg, hq⟩ := hq
    refine ev_xald rfl hg ?_
    refine ev_seq 4 (ip' := 931) (loc' := [some (.ref 2000000), some (.ref 0), some (.ref 46), some (.ref 536), some (.int x4), some (.int v1), none, none]) (st' := [(.int (x4 + 4)), (.ref 2000000), (.int (E.2.2 (x4 + 3).toNatClampNeg)), (.int (E.2.2 (x4 + 2).toNatClampNeg)), (.int (E.2.2 (x4 + 1).toNatClampNeg)), (.ref 46)]) (I1 := I1) (T1 := T1) rfl ?_
    obtain ⟨hg, hq⟩ := hq
    refine ev_xald rfl hg ?_
    refine ev_callL rfl rfl rfl (fun v2 I2 T2 hq => ?_) (fun x I1 T1 hq => ?_) hq
    · refine ev_seq 2 (ip' := 935) (loc' := [some (.ref 2000000), some (.ref 0), some (.ref 46), some (.ref 536), some (.int x4), some (.int v1), some (.long v2), none]) (st' := [(.ref 46)]) (I1 := I2) (T1 := T2) rfl ?_
      refine ev_callI rfl rfl rfl (fun v3 I3 T3 hq => ?_) (fun x I1 T1 hq => ?_) hq
      · refine ev_seq 1 (ip' := 937) (loc' := [some (.ref 2000000), some (.ref 0), some (.ref 46), some (.ref 536), some (.int x4), some (.int v1), some (.long v2), none]) (st' := [(.int v1), (.int v3)]) (I1 := I3) (T1 := T3) rfl ?_
        refine ev_br (p := v3 = v1) (a := 940) (b := 938) (st' := []) inferInstance rfl rfl (fun hb => ?_) (fun hb => ?_)
        · have hq := hq.1 hb
          refine ev_seq 1 (ip' := 941) (loc' := [some (.ref 2000000), some (.ref 0), some (.ref 46), some (.ref 536), some (.int x4), some (.int v1), some (.long v2), none]) (st' := [(.int v1)]) (I1 := I3) (T1 := T3) rfl ?_
          refine ev_br (p := v1 = 0) (a := 942) (b := 950) (st' := []) inferInstance rfl rfl (fun hb => ?_) (fun hb => ?_)
          · have hq := hq.1 hb
            refine ev_seq 5 (ip' := 947) (loc' := [some (.ref 2000000), some (.ref 0), some (.ref 46), some (.ref 536), some (.int x4), some (.int v1), some (.long v2), none]) (st' := [(.int (lg_cmp (T3.1 536 0) v2))]) (I1 := I3) (T1 := T3) rfl ?_
            refine ev_br (p := (lg_cmp (T3.1 536 0) v2) = 0) (a := 950) (b := 948) (st' := []) inferInstance rfl rfl (fun hb => ?_) (fun hb => ?_)
            · have hq := hq.1 hb
              refine ev_fg [true, true, true, true, true, false, false, true] (loc' := [some (.ref 2000000), some (.ref 0), some (.ref 46), some (.ref 536), some (.int x4), none, none, none]) rfl ?_
              exact s_W_main_950 (T := T3) hq
            · have hq := hq.2 hb
              refine ev_seq 1 (ip' := 949) (loc' := [some (.ref 2000000), some (.ref 0), some (.ref 46), some (.ref 536), some (.int x4), some (.int v1), some (.long v2), none]) (st' := [(.int 0)]) (I1 := I3) (T1 := T3) rfl ?_
              exact ev_ret rfl rfl hq
          · have hq := hq.2 hb
            refine ev_fg [true, true, true, true, true, false, false, true] (loc' := [some (.ref 2000000), some (.ref 0), some (.ref 46), some (.ref 536), some (.int x4), none, none, none]) rfl ?_
            exact s_W_main_950 (T := T3) hq
        · have hq := hq.2 hb
          refine ev_seq 1 (ip' := 939) (loc' := [some (.ref 2000000), some (.ref 0), some (.ref 46), some (.ref 536), some (.int x4), some (.int v1), some (.long v2), none]) (st' := [(.int 0)]) (I1 := I3) (T1 := T3) rfl ?_
          exact ev_ret rfl rfl hq
      · exact hq.elim
    · exact hq.elim
  · exact hq.elim
def t_W_main_1005 (E : MEnv) (I : II) (T : TT) (Q : QQ) (x4 : Int32) : Prop := t_W_main_1543 E I T Q x4
theorem s_W_main_1005 {E : MEnv} {I : II} {T : TT} {Q : QQ} {x4 : Int32} (hq : t_W_main_1005 E I T Q x4) : ev E 0 1005 [some (.ref 2000000), some (.ref 0), some (.ref 46), some (.ref 536), some (.int x4), none, none, none] [] I T Q := by
  unfold t_W_main_1005 at hq
  refine ev_seq 1 (ip' := 1543) (loc' := [some (.ref 2000000), some (.ref 0), some (.ref 46), some (.ref 536), some (.int x4), none, none, none]) (st' := []) (I1 := I) (T1 := T) rfl ?_
  exact s_W_main_1543 (T := T) hq
def t_W_main_951 (E : MEnv) (I : II) (T : TT) (Q : QQ) (x4 : Int32) : Prop := (¬ (x4 + 1) < 0 ∧ (x4 + 1).toNatClampNeg < E.2.1) ∧ ((¬ (x4 + 2) < 0 ∧ (x4 + 2).toNatClampNeg < E.2.1) ∧ ((¬ (x4 + 3) < 0 ∧ (x4 + 3).toNatClampNeg < E.2.1) ∧ (ev E 275 0 [some (.ref 0), some (.int (E.2.2 (x4 + 1).toNatClampNeg)), some (.int (E.2.2 (x4 + 2).toNatClampNeg)), some (.int (E.2.2 (x4 + 3).toNatClampNeg)), some (.ref 536), none] [] I T (KI (fun v1 I1 T1 => (¬ (x4 + 1) < 0 ∧ (x4 + 1).toNatClampNeg < E.2.1) ∧ ((¬ (x4 + 2) < 0 ∧ (x4 + 2).toNatClampNeg < E.2.1) ∧ ((¬ (x4 + 3) < 0 ∧ (x4 + 3).toNatClampNeg < E.2.1) ∧ (ev E 278 0 [some (.ref 46), some (.int (E.2.2 (x4 + 1).toNatClampNeg)), some (.int (E.2.2 (x4 + 2).toNatClampNeg)), some (.int (E.2.2 (x4 + 3).toNatClampNeg)), none] [] I1 T1 (KI (fun v2 I2 T2 => ev E 76 0 [some (.ref 46)] [] I2 T2 (KI (fun v3 I3 T3 => (v3 = v1 → ((v1 = 0 → (((lg_cmp (T3.1 536 0) v2.toInt64) = 0 → (t_W_main_1005 E I3 T3 Q x4)) ∧ (¬ ((lg_cmp (T3.1 536 0) v2.toInt64) = 0) → (Q (.inl (some (.int 0))) I3 T3)))) ∧ (¬ (v1 = 0) → (t_W_main_1005 E I3 T3 Q x4)))) ∧ (¬ (v3 = v1) → (Q (.inl (some (.int 0))) I3 T3))) (fun _ _ _ => False))) (fun _ _ _ => False)))))) (fun _ _ _ => False)))))
theorem s_W_main_951 {E : MEnv} {I : II} {T : TT} {Q : QQ} {x4 : Int32} (hq : t_W_main_951 E I T Q x4) : ev E 0 951 [some (.ref 2000000), some (.ref 0), some (.ref 46), some (.ref 536), some (.int x4), none, none, none] [] I T Q := by
  unfold t_W_main_951 at hq
  refine ev_seq 5 (ip' := 956) (loc' := [some (.ref 2000000), some (.ref 0), some (.ref 46), some (.ref 536), some (.int x4), none, none, none]) (st' := [(.int (x4 + 1)), (.ref 2000000), (.ref 0)]) (I1 := I) (T1 := T) rfl ?_
  obtain ⟨hg, hq⟩ := hq
  refine ev_xald rfl hg ?_
  refine ev_seq 4 (ip' := 961) (loc' := [some (.ref 2000000), some (.ref 0), some (.ref 46), some (.ref 536), some (.int x4), none, none, none]) (st' := [(.int (x4 + 2)), (.ref 2000000), (.int (E.2.2 (x4 + 1).toNatClampNeg)), (.ref 0)]) (I1 := I) (T1 := T) rfl ?_
  obtain ⟨hg, hq⟩ := hq
  refine ev_xald rfl hg ?_
  refine ev_seq 4 (ip' := 966) (loc' := [some (.ref 2000000), some (.ref 0), some (.ref 46), some (.ref 536), some (.int x4), none, none, none]) (st' := [(.int (x4 + 3)), (.ref 2000000), (.int (E.2.2 (x4 + 2).toNatClampNeg)), (.int (E.2.2 (x4 + 1).toNatClampNeg)), (.ref 0)]) (I1 := I) (T1 := T) rfl ?_
  obtain ⟨hg, hq⟩ := hq
  refine ev_xald rfl hg ?_
  refine ev_seq 1 (ip' := 968) (loc' := [some (.ref 2000000), some (.ref 0), some (.ref 46), some (.ref 536), some (.int x4), none, none, none]) (st' := [(.ref 536), (.int (E.2.2 (x4 + 3).toNatClampNeg)), (.int (E.2.2 (x4 + 2).toNatClampNeg)), (.int (E.2.2 (x4 + 1).toNatClampNeg)), (.ref 0)]) (I1 := I) (T1 := T) rfl ?_
  refine ev_callI rfl rfl rfl (fun v1 I1 T1 hq => ?_) (fun x I1 T1 hq => ?_) hq
  · refine ev_seq 6 (ip' := 975) (loc' := [some (.ref 2000000), some (.ref 0), some (.ref 46), some (.ref 536), some (.int x4), some (.int v1), none, none]) (st' := [(.int (x4 + 1)), (.ref 2000000), (.ref 46)]) (I1 := I1) (T1 := T1) rfl ?_
    obtain ⟨hg, hq⟩ := hq
    refine ev_xald rfl hg ?_
    refine ev_seq 4 (ip' := 980) (loc' := [some (.ref 2000000), some (.ref 0), some (.ref 46), some (.ref 536), some (.int x4), some (.int v1), none, none]) (st' := [(.int (x4 + 2)), (.ref 2000000), (.int (E.2.2 (x4 + 1).toNatClampNeg)), (.ref 46)]) (I1 := I1) (T1 := T1) rfl ?_
    obtain ⟨hg, hq⟩ := hq
    refine ev_xald rfl hg ?_
    refine ev_seq 4 (ip' := 985) (loc' := [some (.ref 2000000), some (.ref 0), some (.ref 46), some (.ref 536), some (.int x4), some (.int v1), none, none]) (st' := [(.int (x4 + 3)), (.ref 2000000), (.int (E.2.2 (x4 + 2).toNatClampNeg)), (.int (E.2.2 (x4 + 1).toNatClampNeg)), (.ref 46)]) (I1 := I1) (T1 := T1) rfl ?_
    obtain ⟨hg, hq⟩ := hq
    refine ev_xald rfl hg ?_
    refine ev_callI rfl rfl rfl (fun v2 I2 T2 hq => ?_) (fun x I1 T1 hq => ?_) hq
    · refine ev_seq 2 (ip' := 989) (loc' := [some (.ref 2000000), some (.ref 0), some (.ref 46), some (.ref 536), some (.int x4), some (.int v1), some (.int v2), none]) (st' := [(.ref 46)]) (I1 := I2) (T1 := T2) rfl ?_
      refine ev_callI rfl rfl rfl (fun v3 I3 T3 hq => ?_) (fun x I1 T1 hq => ?_) hq
      · refine ev_seq 1 (ip' := 991) (loc' := [some (.ref 2000000), some (.ref 0), some (.ref 46), some (.ref 536), some (.int x4), some (.int v1), some (.int v2), none]) (st' := [(.int v1), (.int v3)]) (I1 := I3) (T1 := T3) rfl ?_
        refine ev_br (p := v3 = v1) (a := 994) (b := 992) (st' := []) inferInstance rfl rfl (fun hb => ?_) (fun hb => ?_)
        · have hq := hq.1 hb
          refine ev_seq 1 (ip' := 995) (loc' := [some (.ref 2000000), some (.ref 0), some (.ref 46), some (.ref 536), some (.int x4), some (.int v1), some (.int v2), none]) (st' := [(.int v1)]) (I1 := I3) (T1 := T3) rfl ?_
          refine ev_br (p := v1 = 0) (a := 996) (b := 1005) (st' := []) inferInstance rfl rfl (fun hb => ?_) (fun hb => ?_)
          · have hq := hq.1 hb
            refine ev_seq 6 (ip' := 1002) (loc' := [some (.ref 2000000), some (.ref 0), some (.ref 46), some (.ref 536), some (.int x4), some (.int v1), some (.int v2), none]) (st' := [(.int (lg_cmp (T3.1 536 0) v2.toInt64))]) (I1 := I3) (T1 := T3) rfl ?_
            refine ev_br (p := (lg_cmp (T3.1 536 0) v2.toInt64) = 0) (a := 1005) (b := 1003) (st' := []) inferInstance rfl rfl (fun hb => ?_) (fun hb => ?_)
            · have hq := hq.1 hb
              refine ev_fg [true, true, true, true, true, false, false, true] (loc' := [some (.ref 2000000), some (.ref 0), some (.ref 46), some (.ref 536), some (.int x4), none, none, none]) rfl ?_
              exact s_W_main_1005 (T := T3) hq
            · have hq := hq.2 hb
              refine ev_seq 1 (ip' := 1004) (loc' := [some (.ref 2000000), some (.ref 0), some (.ref 46), some (.ref 536), some (.int x4), some (.int v1), some (.int v2), none]) (st' := [(.int 0)]) (I1 := I3) (T1 := T3) rfl ?_
              exact ev_ret rfl rfl hq
          · have hq := hq.2 hb
            refine ev_fg [true, true, true, true, true, false, false, true] (loc' := [some (.ref 2000000), some (.ref 0), some (.ref 46), some (.ref 536), some (.int x4), none, none, none]) rfl ?_
            exact s_W_main_1005 (T := T3) hq
        · have hq := hq.2 hb
          refine ev_seq 1 (ip' := 993) (loc' := [some (.ref 2000000), some (.ref 0), some (.ref 46), some (.ref 536), some (.int x4), some (.int v1), some (.int v2), none]) (st' := [(.int 0)]) (I1 := I3) (T1 := T3) rfl ?_
          exact ev_ret rfl rfl hq
      · exact hq.elim
    · exact hq.elim
  · exact hq.elim
def t_W_main_1040 (E : MEnv) (I : II) (T : TT) (Q : QQ) (x4 : Int32) : Prop := t_W_main_1543 E I T Q x4
theorem s_W_main_1040 {E : MEnv} {I : II} {T : TT} {Q : QQ} {x4 : Int32} (hq : t_W_main_1040 E I T Q x4) : ev E 0 1040 [some (.ref 2000000), some (.ref 0), some (.ref 46), some (.ref 536), some (.int x4), none, none, none] [] I T Q := by
  unfold t_W_main_1040 at hq
  refine ev_seq 1 (ip' := 1543) (loc' := [some (.ref 2000000), some (.ref 0), some (.ref 46), some (.ref 536), some (.int x4), none, none, none]) (st' := []) (I1 := I) (T1 := T) rfl ?_
  exact s_W_main_1543 (T := T) hq
def t_W_main_1006 (E : MEnv) (I : II) (T : TT) (Q : QQ) (x4 : Int32) : Prop := (¬ (x4 + 1) < 0 ∧ (x4 + 1).toNatClampNeg < E.2.1) ∧ (ev E 280 0 [some (.ref 0), some (.int (E.2.2 (x4 + 1).toNatClampNeg)), some (.ref 536), none] [] I T (KI (fun v1 I1 T1 => (¬ (x4 + 1) < 0 ∧ (x4 + 1).toNatClampNeg < E.2.1) ∧ (ev E 282 0 [some (.ref 46), some (.int (E.2.2 (x4 + 1).toNatClampNeg)), none, none] [] I1 T1 (KI (fun v2 I2 T2 => ev E 76 0 [some (.ref 46)] [] I2 T2 (KI (fun v3 I3 T3 => (v3 = v1 → ((v1 = 0 → (((lg_cmp (T3.1 536 0) v2.toInt64) = 0 → (t_W_main_1040 E I3 T3 Q x4)) ∧ (¬ ((lg_cmp (T3.1 536 0) v2.toInt64) = 0) → (Q (.inl (some (.int 0))) I3 T3)))) ∧ (¬ (v1 = 0) → (t_W_main_1040 E I3 T3 Q x4)))) ∧ (¬ (v3 = v1) → (Q (.inl (some (.int 0))) I3 T3))) (fun _ _ _ => False))) (fun _ _ _ => False)))) (fun _ _ _ => False)))
theorem s_W_main_1006 {E : MEnv} {I : II} {T : TT} {Q : QQ} {x4 : Int32} (hq : t_W_main_1006 E I T Q x4) : ev E 0 1006 [some (.ref 2000000), some (.ref 0), some (.ref 46), some (.ref 536), some (.int x4), none, none, none] [] I T Q := by
  unfold t_W_main_1006 at hq
  refine ev_seq 5 (ip' := 1011) (loc' := [some (.ref 2000000), some (.ref 0), some (.ref 46), some (.ref 536), some (.int x4), none, none, none]) (st' := [(.int (x4 + 1)), (.ref 2000000), (.ref 0)]) (I1 := I) (T1 := T) rfl ?_
  obtain ⟨hg, hq⟩ := hq
  refine ev_xald rfl hg ?_
  refine ev_seq 1 (ip' := 1013) (loc' := [some (.ref 2000000), some (.ref 0), some (.ref 46), some (.ref 536), some (.int x4), none, none, none]) (st' := [(.ref 536), (.int (E.2.2 (x4 + 1).toNatClampNeg)), (.ref 0)]) (I1 := I) (T1 := T) rfl ?_
  refine ev_callI rfl rfl rfl (fun v1 I1 T1 hq => ?_) (fun x I1 T1 hq => ?_) hq
  · refine ev_seq 6 (ip' := 1020) (loc' := [some (.ref 2000000), some (.ref 0), some (.ref 46), some (.ref 536), some (.int x4), some (.int v1), none, none]) (st' := [(.int (x4 + 1)), (.ref 2000000), (.ref 46)]) (I1 := I1) (T1 := T1) rfl ?_
    obtain ⟨hg, hq⟩ := hq
    refine ev_xald rfl hg ?_
    refine ev_callI rfl rfl rfl (fun v2 I2 T2 hq => ?_) (fun x I1 T1 hq => ?_) hq
    · refine ev_seq 2 (ip' := 1024) (loc' := [some (.ref 2000000), some (.ref 0), some (.ref 46), some (.ref 536), some (.int x4), some (.int v1), some (.int v2), none]) (st' := [(.ref 46)]) (I1 := I2) (T1 := T2) rfl ?_
      refine ev_callI rfl rfl rfl (fun v3 I3 T3 hq => ?_) (fun x I1 T1 hq => ?_) hq
      · refine ev_seq 1 (ip' := 1026) (loc' := [some (.ref 2000000), some (.ref 0), some (.ref 46), some (.ref 536), some (.int x4), some (.int v1), some (.int v2), none]) (st' := [(.int v1), (.int v3)]) (I1 := I3) (T1 := T3) rfl ?_
        refine ev_br (p := v3 = v1) (a := 1029) (b := 1027) (st' := []) inferInstance rfl rfl (fun hb => ?_) (fun hb => ?_)
        · have hq := hq.1 hb
          refine ev_seq 1 (ip' := 1030) (loc' := [some (.ref 2000000), some (.ref 0), some (.ref 46), some (.ref 536), some (.int x4), some (.int v1), some (.int v2), none]) (st' := [(.int v1)]) (I1 := I3) (T1 := T3) rfl ?_
          refine ev_br (p := v1 = 0) (a := 1031) (b := 1040) (st' := []) inferInstance rfl rfl (fun hb => ?_) (fun hb => ?_)
          · have hq := hq.1 hb
            refine ev_seq 6 (ip' := 1037) (loc' := [some (.ref 2000000), some (.ref 0), some (.ref 46), some (.ref 536), some (.int x4), some (.int v1), some (.int v2), none]) (st' := [(.int (lg_cmp (T3.1 536 0) v2.toInt64))]) (I1 := I3) (T1 := T3) rfl ?_
            refine ev_br (p := (lg_cmp (T3.1 536 0) v2.toInt64) = 0) (a := 1040) (b := 1038) (st' := []) inferInstance rfl rfl (fun hb => ?_) (fun hb => ?_)
            · have hq := hq.1 hb
              refine ev_fg [true, true, true, true, true, false, false, true] (loc' := [some (.ref 2000000), some (.ref 0), some (.ref 46), some (.ref 536), some (.int x4), none, none, none]) rfl ?_
              exact s_W_main_1040 (T := T3) hq
            · have hq := hq.2 hb
              refine ev_seq 1 (ip' := 1039) (loc' := [some (.ref 2000000), some (.ref 0), some (.ref 46), some (.ref 536), some (.int x4), some (.int v1), some (.int v2), none]) (st' := [(.int 0)]) (I1 := I3) (T1 := T3) rfl ?_
              exact ev_ret rfl rfl hq
          · have hq := hq.2 hb
            refine ev_fg [true, true, true, true, true, false, false, true] (loc' := [some (.ref 2000000), some (.ref 0), some (.ref 46), some (.ref 536), some (.int x4), none, none, none]) rfl ?_
            exact s_W_main_1040 (T := T3) hq
        · have hq := hq.2 hb
          refine ev_seq 1 (ip' := 1028) (loc' := [some (.ref 2000000), some (.ref 0), some (.ref 46), some (.ref 536), some (.int x4), some (.int v1), some (.int v2), none]) (st' := [(.int 0)]) (I1 := I3) (T1 := T3) rfl ?_
          exact ev_ret rfl rfl hq
      · exact hq.elim
    · exact hq.elim
  · exact hq.elim
def t_W_main_1075 (E : MEnv) (I : II) (T : TT) (Q : QQ) (x4 : Int32) : Prop := t_W_main_1543 E I T Q x4
theorem s_W_main_1075 {E : MEnv} {I : II} {T : TT} {Q : QQ} {x4 : Int32} (hq : t_W_main_1075 E I T Q x4) : ev E 0 1075 [some (.ref 2000000), some (.ref 0), some (.ref 46), some (.ref 536), some (.int x4), none, none, none] [] I T Q := by
  unfold t_W_main_1075 at hq
  refine ev_seq 1 (ip' := 1543) (loc' := [some (.ref 2000000), some (.ref 0), some (.ref 46), some (.ref 536), some (.int x4), none, none, none]) (st' := []) (I1 := I) (T1 := T) rfl ?_
  exact s_W_main_1543 (T := T) hq
def t_W_main_1041 (E : MEnv) (I : II) (T : TT) (Q : QQ) (x4 : Int32) : Prop := (¬ (x4 + 1) < 0 ∧ (x4 + 1).toNatClampNeg < E.2.1) ∧ (ev E 283 0 [some (.ref 0), some (.int (E.2.2 (x4 + 1).toNatClampNeg)), some (.ref 536), none] [] I T (KI (fun v1 I1 T1 => (¬ (x4 + 1) < 0 ∧ (x4 + 1).toNatClampNeg < E.2.1) ∧ (ev E 285 0 [some (.ref 46), some (.int (E.2.2 (x4 + 1).toNatClampNeg)), none, none] [] I1 T1 (KI (fun v2 I2 T2 => ev E 76 0 [some (.ref 46)] [] I2 T2 (KI (fun v3 I3 T3 => (v3 = v1 → ((v1 = 0 → (((lg_cmp (T3.1 536 0) v2.toInt64) = 0 → (t_W_main_1075 E I3 T3 Q x4)) ∧ (¬ ((lg_cmp (T3.1 536 0) v2.toInt64) = 0) → (Q (.inl (some (.int 0))) I3 T3)))) ∧ (¬ (v1 = 0) → (t_W_main_1075 E I3 T3 Q x4)))) ∧ (¬ (v3 = v1) → (Q (.inl (some (.int 0))) I3 T3))) (fun _ _ _ => False))) (fun _ _ _ => False)))) (fun _ _ _ => False)))
theorem s_W_main_1041 {E : MEnv} {I : II} {T : TT} {Q : QQ} {x4 : Int32} (hq : t_W_main_1041 E I T Q x4) : ev E 0 1041 [some (.ref 2000000), some (.ref 0), some (.ref 46), some (.ref 536), some (.int x4), none, none, none] [] I T Q := by
  unfold t_W_main_1041 at hq
  refine ev_seq 5 (ip' := 1046) (loc' := [some (.ref 2000000), some (.ref 0), some (.ref 46), some (.ref 536), some (.int x4), none, none, none]) (st' := [(.int (x4 + 1)), (.ref 2000000), (.ref 0)]) (I1 := I) (T1 := T) rfl ?_
  obtain ⟨hg, hq⟩ := hq
  refine ev_xald rfl hg ?_
  refine ev_seq 1 (ip' := 1048) (loc' := [some (.ref 2000000), some (.ref 0), some (.ref 46), some (.ref 536), some (.int x4), none, none, none]) (st' := [(.ref 536), (.int (E.2.2 (x4 + 1).toNatClampNeg)), (.ref 0)]) (I1 := I) (T1 := T) rfl ?_
  refine ev_callI rfl rfl rfl (fun v1 I1 T1 hq => ?_) (fun x I1 T1 hq => ?_) hq
  · refine ev_seq 6 (ip' := 1055) (loc' := [some (.ref 2000000), some (.ref 0), some (.ref 46), some (.ref 536), some (.int x4), some (.int v1), none, none]) (st' := [(.int (x4 + 1)), (.ref 2000000), (.ref 46)]) (I1 := I1) (T1 := T1) rfl ?_
    obtain ⟨hg, hq⟩ := hq
    refine ev_xald rfl hg ?_
    refine ev_callI rfl rfl rfl (fun v2 I2 T2 hq => ?_) (fun x I1 T1 hq => ?_) hq
    · refine ev_seq 2 (ip' := 1059) (loc' := [some (.ref 2000000), some (.ref 0), some (.ref 46), some (.ref 536), some (.int x4), some (.int v1), some (.int v2), none]) (st' := [(.ref 46)]) (I1 := I2) (T1 := T2) rfl ?_
      refine ev_callI rfl rfl rfl (fun v3 I3 T3 hq => ?_) (fun x I1 T1 hq => ?_) hq
      · refine ev_seq 1 (ip' := 1061) (loc' := [some (.ref 2000000), some (.ref 0), some (.ref 46), some (.ref 536), some (.int x4), some (.int v1), some (.int v2), none]) (st' := [(.int v1), (.int v3)]) (I1 := I3) (T1 := T3) rfl ?_
        refine ev_br (p := v3 = v1) (a := 1064) (b := 1062) (st' := []) inferInstance rfl rfl (fun hb => ?_) (fun hb => ?_)
        · have hq := hq.1 hb
          refine ev_seq 1 (ip' := 1065) (loc' := [some (.ref 2000000), some (.ref 0), some (.ref 46), some (.ref 536), some (.int x4), some (.int v1), some (.int v2), none]) (st' := [(.int v1)]) (I1 := I3) (T1 := T3) rfl ?_
          refine ev_br (p := v1 = 0) (a := 1066) (b := 1075) (st' := []) inferInstance rfl rfl (fun hb => ?_) (fun hb => ?_)
          · have hq := hq.1 hb
            refine ev_seq 6 (ip' := 1072) (loc' := [some (.ref 2000000), some (.ref 0), some (.ref 46), some (.ref 536), some (.int x4), some (.int v1), some (.int v2), none]) (st' := [(.int (lg_cmp (T3.1 536 0) v2.toInt64))]) (I1 := I3) (T1 := T3) rfl ?_
            refine ev_br (p := (lg_cmp (T3.1 536 0) v2.toInt64) = 0) (a := 1075) (b := 1073) (st' := []) inferInstance rfl rfl (fun hb => ?_) (fun hb => ?_)
            · have hq := hq.1 hb
              refine ev_fg [true, true, true, true, true, false, false, true] (loc' := [some (.ref 2000000), some (.ref 0), some (.ref 46), some (.ref 536), some (.int x4), none, none, none]) rfl ?_
              exact s_W_main_1075 (T := T3) hq
            · have hq := hq.2 hb
              refine ev_seq 1 (ip' := 1074) (loc' := [some (.ref 2000000), some (.ref 0), some (.ref 46), some (.ref 536), some (.int x4), some (.int v1), some (.int v2), none]) (st' := [(.int 0)]) (I1 := I3) (T1 := T3) rfl ?_
              exact ev_ret rfl rfl hq
          · have hq := hq.2 hb
            refine ev_fg [true, true, true, true, true, false, false, true] (loc' := [some (.ref 2000000), some (.ref 0), some (.ref 46), some (.ref 536), some (.int x4), none, none, none]) rfl ?_
            exact s_W_main_1075 (T := T3) hq
        · have hq := hq.2 hb
          refine ev_seq 1 (ip' := 1063) (loc' := [some (.ref 2000000), some (.ref 0), some (.ref 46), some (.ref 536), some (.int x4), some (.int v1), some (.int v2), none]) (st' := [(.int 0)]) (I1 := I3) (T1 := T3) rfl ?_
          exact ev_ret rfl rfl hq
      · exact hq.elim
    · exact hq.elim
  · exact hq.elim
def t_W_main_1110 (E : MEnv) (I : II) (T : TT) (Q : QQ) (x4 : Int32) : Prop := t_W_main_1543 E I T Q x4
theorem s_W_main_1110 {E : MEnv} {I : II} {T : TT} {Q : QQ} {x4 : Int32} (hq : t_W_main_1110 E I T Q x4) : ev E 0 1110 [some (.ref 2000000), some (.ref 0), some (.ref 46), some (.ref 536), some (.int x4), none, none, none] [] I T Q := by
  unfold t_W_main_1110 at hq
  refine ev_seq 1 (ip' := 1543) (loc' := [some (.ref 2000000), some (.ref 0), some (.ref 46), some (.ref 536), some (.int x4), none, none, none]) (st' := []) (I1 := I) (T1 := T) rfl ?_
  exact s_W_main_1543 (T := T) hq
def t_W_main_1076 (E : MEnv) (I : II) (T : TT) (Q : QQ) (x4 : Int32) : Prop := (¬ (x4 + 1) < 0 ∧ (x4 + 1).toNatClampNeg < E.2.1) ∧ (ev E 286 0 [some (.ref 0), some (.int (E.2.2 (x4 + 1).toNatClampNeg)), some (.ref 536), none] [] I T (KI (fun v1 I1 T1 => (¬ (x4 + 1) < 0 ∧ (x4 + 1).toNatClampNeg < E.2.1) ∧ (ev E 288 0 [some (.ref 46), some (.int (E.2.2 (x4 + 1).toNatClampNeg)), none, none] [] I1 T1 (KI (fun v2 I2 T2 => ev E 76 0 [some (.ref 46)] [] I2 T2 (KI (fun v3 I3 T3 => (v3 = v1 → ((v1 = 0 → (((lg_cmp (T3.1 536 0) v2.toInt64) = 0 → (t_W_main_1110 E I3 T3 Q x4)) ∧ (¬ ((lg_cmp (T3.1 536 0) v2.toInt64) = 0) → (Q (.inl (some (.int 0))) I3 T3)))) ∧ (¬ (v1 = 0) → (t_W_main_1110 E I3 T3 Q x4)))) ∧ (¬ (v3 = v1) → (Q (.inl (some (.int 0))) I3 T3))) (fun _ _ _ => False))) (fun _ _ _ => False)))) (fun _ _ _ => False)))
theorem s_W_main_1076 {E : MEnv} {I : II} {T : TT} {Q : QQ} {x4 : Int32} (hq : t_W_main_1076 E I T Q x4) : ev E 0 1076 [some (.ref 2000000), some (.ref 0), some (.ref 46), some (.ref 536), some (.int x4), none, none, none] [] I T Q := by
  unfold t_W_main_1076 at hq
  refine ev_seq 5 (ip' := 1081) (loc' := [some (.ref 2000000), some (.ref 0), some (.ref 46), some (.ref 536), some (.int x4), none, none, none]) (st' := [(.int (x4 + 1)), (.ref 2000000), (.ref 0)]) (I1 := I) (T1 := T) rfl ?_
  obtain ⟨hg, hq⟩ := hq
  refine ev_xald rfl hg ?_
  refine ev_seq 1 (ip' := 1083) (loc' := [some (.ref 2000000), some (.ref 0), some (.ref 46), some (.ref 536), some (.int x4), none, none, none]) (st' := [(.ref 536), (.int (E.2.2 (x4 + 1).toNatClampNeg)), (.ref 0)]) (I1 := I) (T1 := T) rfl ?_
  refine ev_callI rfl rfl rfl (fun v1 I1 T1 hq => ?_) (fun x I1 T1 hq => ?_) hq
  · refine ev_seq 6 (ip' := 1090) (loc' := [some (.ref 2000000), some (.ref 0), some (.ref 46), some (.ref 536), some (.int x4), some (.int v1), none, none]) (st' := [(.int (x4 + 1)), (.ref 2000000), (.ref 46)]) (I1 := I1) (T1 := T1) rfl ?_
    obtain ⟨hg, hq⟩ := hq
    refine ev_xald rfl hg ?_
    refine ev_callI rfl rfl rfl (fun v2 I2 T2 hq => ?_) (fun x I1 T1 hq => ?_) hq
    · refine ev_seq 2 (ip' := 1094) (loc' := [some (.ref 2000000), some (.ref 0), some (.ref 46), some (.ref 536), some (.int x4), some (.int v1), some (.int v2), none]) (st' := [(.ref 46)]) (I1 := I2) (T1 := T2) rfl ?_
      refine ev_callI rfl rfl rfl (fun v3 I3 T3 hq => ?_) (fun x I1 T1 hq => ?_) hq
      · refine ev_seq 1 (ip' := 1096) (loc' := [some (.ref 2000000), some (.ref 0), some (.ref 46), some (.ref 536), some (.int x4), some (.int v1), some (.int v2), none]) (st' := [(.int v1), (.int v3)]) (I1 := I3) (T1 := T3) rfl ?_
        refine ev_br (p := v3 = v1) (a := 1099) (b := 1097) (st' := []) inferInstance rfl rfl (fun hb => ?_) (fun hb => ?_)
        · have hq := hq.1 hb
          refine ev_seq 1 (ip' := 1100) (loc' := [some (.ref 2000000), some (.ref 0), some (.ref 46), some (.ref 536), some (.int x4), some (.int v1), some (.int v2), none]) (st' := [(.int v1)]) (I1 := I3) (T1 := T3) rfl ?_
          refine ev_br (p := v1 = 0) (a := 1101) (b := 1110) (st' := []) inferInstance rfl rfl (fun hb => ?_) (fun hb => ?_)
          · have hq := hq.1 hb
            refine ev_seq 6 (ip' := 1107) (loc' := [some (.ref 2000000), some (.ref 0), some (.ref 46), some (.ref 536), some (.int x4), some (.int v1), some (.int v2), none]) (st' := [(.int (lg_cmp (T3.1 536 0) v2.toInt64))]) (I1 := I3) (T1 := T3) rfl ?_
            refine ev_br (p := (lg_cmp (T3.1 536 0) v2.toInt64) = 0) (a := 1110) (b := 1108) (st' := []) inferInstance rfl rfl (fun hb => ?_) (fun hb => ?_)
            · have hq := hq.1 hb
              refine ev_fg [true, true, true, true, true, false, false, true] (loc' := [some (.ref 2000000), some (.ref 0), some (.ref 46), some (.ref 536), some (.int x4), none, none, none]) rfl ?_
              exact s_W_main_1110 (T := T3) hq
            · have hq := hq.2 hb
              refine ev_seq 1 (ip' := 1109) (loc' := [some (.ref 2000000), some (.ref 0), some (.ref 46), some (.ref 536), some (.int x4), some (.int v1), some (.int v2), none]) (st' := [(.int 0)]) (I1 := I3) (T1 := T3) rfl ?_
              exact ev_ret rfl rfl hq
          · have hq := hq.2 hb
            refine ev_fg [true, true, true, true, true, false, false, true] (loc' := [some (.ref 2000000), some (.ref 0), some (.ref 46), some (.ref 536), some (.int x4), none, none, none]) rfl ?_
            exact s_W_main_1110 (T := T3) hq
        · have hq := hq.2 hb
          refine ev_seq 1 (ip' := 1098) (loc' := [some (.ref 2000000), some (.ref 0), some (.ref 46), some (.ref 536), some (.int x4), some (.int v1), some (.int v2), none]) (st' := [(.int 0)]) (I1 := I3) (T1 := T3) rfl ?_
          exact ev_ret rfl rfl hq
      · exact hq.elim
    · exact hq.elim
  · exact hq.elim
def t_W_main_1145 (E : MEnv) (I : II) (T : TT) (Q : QQ) (x4 : Int32) : Prop := t_W_main_1543 E I T Q x4
theorem s_W_main_1145 {E : MEnv} {I : II} {T : TT} {Q : QQ} {x4 : Int32} (hq : t_W_main_1145 E I T Q x4) : ev E 0 1145 [some (.ref 2000000), some (.ref 0), some (.ref 46), some (.ref 536), some (.int x4), none, none, none] [] I T Q := by
  unfold t_W_main_1145 at hq
  refine ev_seq 1 (ip' := 1543) (loc' := [some (.ref 2000000), some (.ref 0), some (.ref 46), some (.ref 536), some (.int x4), none, none, none]) (st' := []) (I1 := I) (T1 := T) rfl ?_
  exact s_W_main_1543 (T := T) hq
def t_W_main_1111 (E : MEnv) (I : II) (T : TT) (Q : QQ) (x4 : Int32) : Prop := (¬ (x4 + 1) < 0 ∧ (x4 + 1).toNatClampNeg < E.2.1) ∧ (ev E 289 0 [some (.ref 0), some (.int (E.2.2 (x4 + 1).toNatClampNeg)), some (.ref 536), none] [] I T (KI (fun v1 I1 T1 => (¬ (x4 + 1) < 0 ∧ (x4 + 1).toNatClampNeg < E.2.1) ∧ (ev E 291 0 [some (.ref 46), some (.int (E.2.2 (x4 + 1).toNatClampNeg)), none, none, none, none, none] [] I1 T1 (KI (fun v2 I2 T2 => ev E 76 0 [some (.ref 46)] [] I2 T2 (KI (fun v3 I3 T3 => (v3 = v1 → ((v1 = 0 → (((lg_cmp (T3.1 536 0) v2.toInt64) = 0 → (t_W_main_1145 E I3 T3 Q x4)) ∧ (¬ ((lg_cmp (T3.1 536 0) v2.toInt64) = 0) → (Q (.inl (some (.int 0))) I3 T3)))) ∧ (¬ (v1 = 0) → (t_W_main_1145 E I3 T3 Q x4)))) ∧ (¬ (v3 = v1) → (Q (.inl (some (.int 0))) I3 T3))) (fun _ _ _ => False))) (fun _ _ _ => False)))) (fun _ _ _ => False)))
theorem s_W_main_1111 {E : MEnv} {I : II} {T : TT} {Q : QQ} {x4 : Int32} (hq : t_W_main_1111 E I T Q x4) : ev E 0 1111 [some (.ref 2000000), some (.ref 0), some (.ref 46), some (.ref 536), some (.int x4), none, none, none] [] I T Q := by
  unfold t_W_main_1111 at hq
  refine ev_seq 5 (ip' := 1116) (loc' := [some (.ref 2000000), some (.ref 0), some (.ref 46), some (.ref 536), some (.int x4), none, none, none]) (st' := [(.int (x4 + 1)), (.ref 2000000), (.ref 0)]) (I1 := I) (T1 := T) rfl ?_
  obtain ⟨hg, hq⟩ := hq
  refine ev_xald rfl hg ?_
  refine ev_seq 1 (ip' := 1118) (loc' := [some (.ref 2000000), some (.ref 0), some (.ref 46), some (.ref 536), some (.int x4), none, none, none]) (st' := [(.ref 536), (.int (E.2.2 (x4 + 1).toNatClampNeg)), (.ref 0)]) (I1 := I) (T1 := T) rfl ?_
  refine ev_callI rfl rfl rfl (fun v1 I1 T1 hq => ?_) (fun x I1 T1 hq => ?_) hq
  · refine ev_seq 6 (ip' := 1125) (loc' := [some (.ref 2000000), some (.ref 0), some (.ref 46), some (.ref 536), some (.int x4), some (.int v1), none, none]) (st' := [(.int (x4 + 1)), (.ref 2000000), (.ref 46)]) (I1 := I1) (T1 := T1) rfl ?_
    obtain ⟨hg, hq⟩ := hq
    refine ev_xald rfl hg ?_
    refine ev_callI rfl rfl rfl (fun v2 I2 T2 hq => ?_) (fun x I1 T1 hq => ?_) hq
    · refine ev_seq 2 (ip' := 1129) (loc' := [some (.ref 2000000), some (.ref 0), some (.ref 46), some (.ref 536), some (.int x4), some (.int v1), some (.int v2), none]) (st' := [(.ref 46)]) (I1 := I2) (T1 := T2) rfl ?_
      refine ev_callI rfl rfl rfl (fun v3 I3 T3 hq => ?_) (fun x I1 T1 hq => ?_) hq
      · refine ev_seq 1 (ip' := 1131) (loc' := [some (.ref 2000000), some (.ref 0), some (.ref 46), some (.ref 536), some (.int x4), some (.int v1), some (.int v2), none]) (st' := [(.int v1), (.int v3)]) (I1 := I3) (T1 := T3) rfl ?_
        refine ev_br (p := v3 = v1) (a := 1134) (b := 1132) (st' := []) inferInstance rfl rfl (fun hb => ?_) (fun hb => ?_)
        · have hq := hq.1 hb
          refine ev_seq 1 (ip' := 1135) (loc' := [some (.ref 2000000), some (.ref 0), some (.ref 46), some (.ref 536), some (.int x4), some (.int v1), some (.int v2), none]) (st' := [(.int v1)]) (I1 := I3) (T1 := T3) rfl ?_
          refine ev_br (p := v1 = 0) (a := 1136) (b := 1145) (st' := []) inferInstance rfl rfl (fun hb => ?_) (fun hb => ?_)
          · have hq := hq.1 hb
            refine ev_seq 6 (ip' := 1142) (loc' := [some (.ref 2000000), some (.ref 0), some (.ref 46), some (.ref 536), some (.int x4), some (.int v1), some (.int v2), none]) (st' := [(.int (lg_cmp (T3.1 536 0) v2.toInt64))]) (I1 := I3) (T1 := T3) rfl ?_
            refine ev_br (p := (lg_cmp (T3.1 536 0) v2.toInt64) = 0) (a := 1145) (b := 1143) (st' := []) inferInstance rfl rfl (fun hb => ?_) (fun hb => ?_)
            · have hq := hq.1 hb
              refine ev_fg [true, true, true, true, true, false, false, true] (loc' := [some (.ref 2000000), some (.ref 0), some (.ref 46), some (.ref 536), some (.int x4), none, none, none]) rfl ?_
              exact s_W_main_1145 (T := T3) hq
            · have hq := hq.2 hb
              refine ev_seq 1 (ip' := 1144) (loc' := [some (.ref 2000000), some (.ref 0), some (.ref 46), some (.ref 536), some (.int x4), some (.int v1), some (.int v2), none]) (st' := [(.int 0)]) (I1 := I3) (T1 := T3) rfl ?_
              exact ev_ret rfl rfl hq
          · have hq := hq.2 hb
            refine ev_fg [true, true, true, true, true, false, false, true] (loc' := [some (.ref 2000000), some (.ref 0), some (.ref 46), some (.ref 536), some (.int x4), none, none, none]) rfl ?_
            exact s_W_main_1145 (T := T3) hq
        · have hq := hq.2 hb
          refine ev_seq 1 (ip' := 1133) (loc' := [some (.ref 2000000), some (.ref 0), some (.ref 46), some (.ref 536), some (.int x4), some (.int v1), some (.int v2), none]) (st' := [(.int 0)]) (I1 := I3) (T1 := T3) rfl ?_
          exact ev_ret rfl rfl hq
      · exact hq.elim
    · exact hq.elim
  · exact hq.elim
def t_W_main_1146 (E : MEnv) (I : II) (T : TT) (Q : QQ) (x4 : Int32) : Prop := ev E 292 0 [some (.ref 0), none, none] [] I T (KI (fun v1 I1 T1 => ev E 293 0 [some (.ref 46), none, none] [] I1 T1 (KI (fun v2 I2 T2 => (v1 = v2 → (t_W_main_1543 E I2 T2 Q x4)) ∧ (¬ (v1 = v2) → (Q (.inl (some (.int 0))) I2 T2))) (fun _ _ _ => False))) (fun _ _ _ => False))
theorem s_W_main_1146 {E : MEnv} {I : II} {T : TT} {Q : QQ} {x4 : Int32} (hq : t_W_main_1146 E I T Q x4) : ev E 0 1146 [some (.ref 2000000), some (.ref 0), some (.ref 46), some (.ref 536), some (.int x4), none, none, none] [] I T Q := by
  unfold t_W_main_1146 at hq
  refine ev_seq 1 (ip' := 1147) (loc' := [some (.ref 2000000), some (.ref 0), some (.ref 46), some (.ref 536), some (.int x4), none, none, none]) (st' := [(.ref 0)]) (I1 := I) (T1 := T) rfl ?_
  refine ev_callI rfl rfl rfl (fun v1 I1 T1 hq => ?_) (fun x I1 T1 hq => ?_) hq
  · refine ev_seq 1 (ip' := 1149) (loc' := [some (.ref 2000000), some (.ref 0), some (.ref 46), some (.ref 536), some (.int x4), none, none, none]) (st' := [(.ref 46), (.int v1)]) (I1 := I1) (T1 := T1) rfl ?_
    refine ev_callI rfl rfl rfl (fun v2 I2 T2 hq => ?_) (fun x I1 T1 hq => ?_) hq
    · refine ev_br (p := v1 = v2) (a := 1543) (b := 1151) (st' := []) inferInstance rfl rfl (fun hb => ?_) (fun hb => ?_)
      · have hq := hq.1 hb
        exact s_W_main_1543 (T := T2) hq
      · have hq := hq.2 hb
        refine ev_seq 1 (ip' := 1152) (loc' := [some (.ref 2000000), some (.ref 0), some (.ref 46), some (.ref 536), some (.int x4), none, none, none]) (st' := [(.int 0)]) (I1 := I2) (T1 := T2) rfl ?_
        exact ev_ret rfl rfl hq
    · exact hq.elim
  · exact hq.elim
def t_W_main_1153 (E : MEnv) (I : II) (T : TT) (Q : QQ) (x4 : Int32) : Prop := ev E 294 0 [some (.ref 0)] [] I T (KI (fun v1 I1 T1 => ev E 295 0 [some (.ref 46), none, none] [] I1 T1 (KI (fun v2 I2 T2 => (v1 = v2 → (t_W_main_1543 E I2 T2 Q x4)) ∧ (¬ (v1 = v2) → (Q (.inl (some (.int 0))) I2 T2))) (fun _ _ _ => False))) (fun _ _ _ => False))
theorem s_W_main_1153 {E : MEnv} {I : II} {T : TT} {Q : QQ} {x4 : Int32} (hq : t_W_main_1153 E I T Q x4) : ev E 0 1153 [some (.ref 2000000), some (.ref 0), some (.ref 46), some (.ref 536), some (.int x4), none, none, none] [] I T Q := by
  unfold t_W_main_1153 at hq
  refine ev_seq 1 (ip' := 1154) (loc' := [some (.ref 2000000), some (.ref 0), some (.ref 46), some (.ref 536), some (.int x4), none, none, none]) (st' := [(.ref 0)]) (I1 := I) (T1 := T) rfl ?_
  refine ev_callI rfl rfl rfl (fun v1 I1 T1 hq => ?_) (fun x I1 T1 hq => ?_) hq
  · refine ev_seq 1 (ip' := 1156) (loc' := [some (.ref 2000000), some (.ref 0), some (.ref 46), some (.ref 536), some (.int x4), none, none, none]) (st' := [(.ref 46), (.int v1)]) (I1 := I1) (T1 := T1) rfl ?_
    refine ev_callI rfl rfl rfl (fun v2 I2 T2 hq => ?_) (fun x I1 T1 hq => ?_) hq
    · refine ev_br (p := v1 = v2) (a := 1543) (b := 1158) (st' := []) inferInstance rfl rfl (fun hb => ?_) (fun hb => ?_)
      · have hq := hq.1 hb
        exact s_W_main_1543 (T := T2) hq
      · have hq := hq.2 hb
        refine ev_seq 1 (ip' := 1159) (loc' := [some (.ref 2000000), some (.ref 0), some (.ref 46), some (.ref 536), some (.int x4), none, none, none]) (st' := [(.int 0)]) (I1 := I2) (T1 := T2) rfl ?_
        exact ev_ret rfl rfl hq
    · exact hq.elim
  · exact hq.elim
def t_W_main_1204 (E : MEnv) (I : II) (T : TT) (Q : QQ) (x4 : Int32) : Prop := t_W_main_1543 E I T Q x4
theorem s_W_main_1204 {E : MEnv} {I : II} {T : TT} {Q : QQ} {x4 : Int32} (hq : t_W_main_1204 E I T Q x4) : ev E 0 1204 [some (.ref 2000000), some (.ref 0), some (.ref 46), some (.ref 536), some (.int x4), none, none, none] [] I T Q := by
  unfold t_W_main_1204 at hq
  refine ev_seq 1 (ip' := 1543) (loc' := [some (.ref 2000000), some (.ref 0), some (.ref 46), some (.ref 536), some (.int x4), none, none, none]) (st' := []) (I1 := I) (T1 := T) rfl ?_
  exact s_W_main_1543 (T := T) hq
def t_W_main_1160 (E : MEnv) (I : II) (T : TT) (Q : QQ) (x4 : Int32) : Prop := (¬ (x4 + 1) < 0 ∧ (x4 + 1).toNatClampNeg < E.2.1) ∧ ((¬ (x4 + 2) < 0 ∧ (x4 + 2).toNatClampNeg < E.2.1) ∧ (ev E 296 0 [some (.ref 0), some (.int (E.2.2 (x4 + 1).toNatClampNeg)), some (.int (E.2.2 (x4 + 2).toNatClampNeg)), some (.ref 536), none] [] I T (KI (fun v1 I1 T1 => (¬ (x4 + 1) < 0 ∧ (x4 + 1).toNatClampNeg < E.2.1) ∧ ((¬ (x4 + 2) < 0 ∧ (x4 + 2).toNatClampNeg < E.2.1) ∧ (ev E 298 0 [some (.ref 46), some (.int (E.2.2 (x4 + 1).toNatClampNeg)), some (.int (E.2.2 (x4 + 2).toNatClampNeg)), none] [] I1 T1 (KI (fun v2 I2 T2 => ev E 76 0 [some (.ref 46)] [] I2 T2 (KI (fun v3 I3 T3 => (v3 = v1 → ((v1 = 0 → (((lg_cmp (T3.1 536 0) v2.toInt64) = 0 → (t_W_main_1204 E I3 T3 Q x4)) ∧ (¬ ((lg_cmp (T3.1 536 0) v2.toInt64) = 0) → (Q (.inl (some (.int 0))) I3 T3)))) ∧ (¬ (v1 = 0) → (t_W_main_1204 E I3 T3 Q x4)))) ∧ (¬ (v3 = v1) → (Q (.inl (some (.int 0))) I3 T3))) (fun _ _ _ => False))) (fun _ _ _ => False))))) (fun _ _ _ => False))))
theorem s_W_main_1160 {E : MEnv} {I : II} {T : TT} {Q : QQ} {x4 : Int32} (hq : t_W_main_1160 E I T Q x4) : ev E 0 1160 [some (.ref 2000000), some (.ref 0), some (.ref 46), some (.ref 536), some (.int x4), none, none, none] [] I T Q := by
  unfold t_W_main_1160 at hq
  refine ev_seq 5 (ip' := 1165) (loc' := [some (.ref 2000000), some (.ref 0), some (.ref 46), some (.ref 536), some (.int x4), none, none, none]) (st' := [(.int (x4 + 1)), (.ref 2000000), (.ref 0)]) (I1 := I) (T1 := T) rfl ?_
  obtain ⟨hg, hq⟩ := hq
  refine ev_xald rfl hg ?_
  refine ev_seq 4 (ip' := 1170) (loc' := [some (.ref 2000000), some (.ref 0), some (.ref 46), some (.ref 536), some (.int x4), none, none, none]) (st' := [(.int (x4 + 2)), (.ref 2000000), (.int (E.2.2 (x4 + 1).toNatClampNeg)), (.ref 0)]) (I1 := I) (T1 := T) rfl ?_
  obtain ⟨hg, hq⟩ := hq
  refine ev_xald rfl hg ?_
  refine ev_seq 1 (ip' := 1172) (loc' := [some (.ref 2000000), some (.ref 0), some (.ref 46), some (.ref 536), some (.int x4), none, none, none]) (st' := [(.ref 536), (.int (E.2.2 (x4 + 2).toNatClampNeg)), (.int (E.2.2 (x4 + 1).toNatClampNeg)), (.ref 0)]) (I1 := I) (T1 := T) rfl ?_
  refine ev_callI rfl rfl rfl (fun v1 I1 T1 hq => ?_) (fun x I1 T1 hq => ?_) hq
  · refine ev_seq 6 (ip' := 1179) (loc' := [some (.ref 2000000), some (.ref 0), some (.ref 46), some (.ref 536), some (.int x4), some (.int v1), none, none]) (st' := [(.int (x4 + 1)), (.ref 2000000), (.ref 46)]) (I1 := I1) (T1 := T1) rfl ?_
    obtain ⟨hg, hq⟩ := hq
    refine ev_xald rfl hg ?_
    refine ev_seq 4 (ip' := 1184) (loc' := [some (.ref 2000000), some (.ref 0), some (.ref 46), some (.ref 536), some (.int x4), some (.int v1), none, none]) (st' := [(.int (x4 + 2)), (.ref 2000000), (.int (E.2.2 (x4 + 1).toNatClampNeg)), (.ref 46)]) (I1 := I1) (T1 := T1) rfl ?_
    obtain ⟨hg, hq⟩ := hq
    refine ev_xald rfl hg ?_
    refine ev_callI rfl rfl rfl (fun v2 I2 T2 hq => ?_) (fun x I1 T1 hq => ?_) hq
    · refine ev_seq 2 (ip' := 1188) (loc' := [some (.ref 2000000), some (.ref 0), some (.ref 46), some (.ref 536), some (.int x4), some (.int v1), some (.int v2), none]) (st' := [(.ref 46)]) (I1 := I2) (T1 := T2) rfl ?_
      refine ev_callI rfl rfl rfl (fun v3 I3 T3 hq => ?_) (fun x I1 T1 hq => ?_) hq
      · refine ev_seq 1 (ip' := 1190) (loc' := [some (.ref 2000000), some (.ref 0), some (.ref 46), some (.ref 536), some (.int x4), some (.int v1), some (.int v2), none]) (st' := [(.int v1), (.int v3)]) (I1 := I3) (T1 := T3) rfl ?_
        refine ev_br (p := v3 = v1) (a := 1193) (b := 1191) (st' := []) inferInstance rfl rfl (fun hb => ?_) (fun hb => ?_)
        · have hq := hq.1 hb
          refine ev_seq 1 (ip' := 1194) (loc' := [some (.ref 2000000), some (.ref 0), some (.ref 46), some (.ref 536), some (.int x4), some (.int v1), some (.int v2), none]) (st' := [(.int v1)]) (I1 := I3) (T1 := T3) rfl ?_
          refine ev_br (p := v1 = 0) (a := 1195) (b := 1204) (st' := []) inferInstance rfl rfl (fun hb => ?_) (fun hb => ?_)
          · have hq := hq.1 hb
            refine ev_seq 6 (ip' := 1201) (loc' := [some (.ref 2000000), some (.ref 0), some (.ref 46), some (.ref 536), some (.int x4), some (.int v1), some (.int v2), none]) (st' := [(.int (lg_cmp (T3.1 536 0) v2.toInt64))]) (I1 := I3) (T1 := T3) rfl ?_
            refine ev_br (p := (lg_cmp (T3.1 536 0) v2.toInt64) = 0) (a := 1204) (b := 1202) (st' := []) inferInstance rfl rfl (fun hb => ?_) (fun hb => ?_)
            · have hq := hq.1 hb
              refine ev_fg [true, true, true, true, true, false, false, true] (loc' := [some (.ref 2000000), some (.ref 0), some (.ref 46), some (.ref 536), some (.int x4), none, none, none]) rfl ?_
              exact s_W_main_1204 (T := T3) hq
            · have hq := hq.2 hb
              refine ev_seq 1 (ip' := 1203) (loc' := [some (.ref 2000000), some (.ref 0), some (.ref 46), some (.ref 536), some (.int x4), some (.int v1), some (.int v2), none]) (st' := [(.int 0)]) (I1 := I3) (T1 := T3) rfl ?_
              exact ev_ret rfl rfl hq
          · have hq := hq.2 hb
            refine ev_fg [true, true, true, true, true, false, false, true] (loc' := [some (.ref 2000000), some (.ref 0), some (.ref 46), some (.ref 536), some (.int x4), none, none, none]) rfl ?_
            exact s_W_main_1204 (T := T3) hq
        · have hq := hq.2 hb
          refine ev_seq 1 (ip' := 1192) (loc' := [some (.ref 2000000), some (.ref 0), some (.ref 46), some (.ref 536), some (.int x4), some (.int v1), some (.int v2), none]) (st' := [(.int 0)]) (I1 := I3) (T1 := T3) rfl ?_
          exact ev_ret rfl rfl hq
      · exact hq.elim
    · exact hq.elim
  · exact hq.elim
def t_W_main_1239 (E : MEnv) (I : II) (T : TT) (Q : QQ) (x4 : Int32) : Prop := t_W_main_1543 E I T Q x4
theorem s_W_main_1239 {E : MEnv} {I : II} {T : TT} {Q : QQ} {x4 : Int32} (hq : t_W_main_1239 E I T Q x4) : ev E 0 1239 [some (.ref 2000000), some (.ref 0), some (.ref 46), some (.ref 536), some (.int x4), none, none, none] [] I T Q := by
  unfold t_W_main_1239 at hq
  refine ev_seq 1 (ip' := 1543) (loc' := [some (.ref 2000000), some (.ref 0), some (.ref 46), some (.ref 536), some (.int x4), none, none, none]) (st' := []) (I1 := I) (T1 := T) rfl ?_
  exact s_W_main_1543 (T := T) hq
def t_W_main_1205 (E : MEnv) (I : II) (T : TT) (Q : QQ) (x4 : Int32) : Prop := (¬ (x4 + 1) < 0 ∧ (x4 + 1).toNatClampNeg < E.2.1) ∧ (ev E 299 0 [some (.ref 0), some (.int (E.2.2 (x4 + 1).toNatClampNeg)), some (.ref 536), none] [] I T (KI (fun v1 I1 T1 => (¬ (x4 + 1) < 0 ∧ (x4 + 1).toNatClampNeg < E.2.1) ∧ (ev E 301 0 [some (.ref 46), some (.int (E.2.2 (x4 + 1).toNatClampNeg)), none, none] [] I1 T1 (KI (fun v2 I2 T2 => ev E 76 0 [some (.ref 46)] [] I2 T2 (KI (fun v3 I3 T3 => (v3 = v1 → ((v1 = 0 → (((lg_cmp (T3.1 536 0) v2.toInt64) = 0 → (t_W_main_1239 E I3 T3 Q x4)) ∧ (¬ ((lg_cmp (T3.1 536 0) v2.toInt64) = 0) → (Q (.inl (some (.int 0))) I3 T3)))) ∧ (¬ (v1 = 0) → (t_W_main_1239 E I3 T3 Q x4)))) ∧ (¬ (v3 = v1) → (Q (.inl (some (.int 0))) I3 T3))) (fun _ _ _ => False))) (fun _ _ _ => False)))) (fun _ _ _ => False)))
theorem s_W_main_1205 {E : MEnv} {I : II} {T : TT} {Q : QQ} {x4 : Int32} (hq : t_W_main_1205 E I T Q x4) : ev E 0 1205 [some (.ref 2000000), some (.ref 0), some (.ref 46), some (.ref 536), some (.int x4), none, none, none] [] I T Q := by
  unfold t_W_main_1205 at hq
  refine ev_seq 5 (ip' := 1210) (loc' := [some (.ref 2000000), some (.ref 0), some (.ref 46), some (.ref 536), some (.int x4), none, none, none]) (st' := [(.int (x4 + 1)), (.ref 2000000), (.ref 0)]) (I1 := I) (T1 := T) rfl ?_
  obtain ⟨hg, hq⟩ := hq
  refine ev_xald rfl hg ?_
  refine ev_seq 1 (ip' := 1212) (loc' := [some (.ref 2000000), some (.ref 0), some (.ref 46), some (.ref 536), some (.int x4), none, none, none]) (st' := [(.ref 536), (.int (E.2.2 (x4 + 1).toNatClampNeg)), (.ref 0)]) (I1 := I) (T1 := T) rfl ?_
  refine ev_callI rfl rfl rfl (fun v1 I1 T1 hq => ?_) (fun x I1 T1 hq => ?_) hq
  · refine ev_seq 6 (ip' := 1219) (loc' := [some (.ref 2000000), some (.ref 0), some (.ref 46), some (.ref 536), some (.int x4), some (.int v1), none, none]) (st' := [(.int (x4 + 1)), (.ref 2000000), (.ref 46)]) (I1 := I1) (T1 := T1) rfl ?_
    obtain ⟨hg, hq⟩ := hq
    refine ev_xald rfl hg ?_
    refine ev_callI rfl rfl rfl (fun v2 I2 T2 hq => ?_) (fun x I1 T1 hq => ?_) hq
    · refine ev_seq 2 (ip' := 1223) (loc' := [some (.ref 2000000), some (.ref 0), some (.ref 46), some (.ref 536), some (.int x4), some (.int v1), some (.int v2), none]) (st' := [(.ref 46)]) (I1 := I2) (T1 := T2) rfl ?_
      refine ev_callI rfl rfl rfl (fun v3 I3 T3 hq => ?_) (fun x I1 T1 hq => ?_) hq
      · refine ev_seq 1 (ip' := 1225) (loc' := [some (.ref 2000000), some (.ref 0), some (.ref 46), some (.ref 536), some (.int x4), some (.int v1), some (.int v2), none]) (st' := [(.int v1), (.int v3)]) (I1 := I3) (T1 := T3) rfl ?_
        refine ev_br (p := v3 = v1) (a := 1228) (b := 1226) (st' := []) inferInstance rfl rfl (fun hb => ?_) (fun hb => ?_)
        · have hq := hq.1 hb
          refine ev_seq 1 (ip' := 1229) (loc' := [some (.ref 2000000), some (.ref 0), some (.ref 46), some (.ref 536), some (.int x4), some (.int v1), some (.int v2), none]) (st' := [(.int v1)]) (I1 := I3) (T1 := T3) rfl ?_
          refine ev_br (p := v1 = 0) (a := 1230) (b := 1239) (st' := []) inferInstance rfl rfl (fun hb => ?_) (fun hb => ?_)
          · have hq := hq.1 hb
            refine ev_seq 6 (ip' := 1236) (loc' := [some (.ref 2000000), some (.ref 0), some (.ref 46), some (.ref 536), some (.int x4), some (.int v1), some (.int v2), none]) (st' := [(.int (lg_cmp (T3.1 536 0) v2.toInt64))]) (I1 := I3) (T1 := T3) rfl ?_
            refine ev_br (p := (lg_cmp (T3.1 536 0) v2.toInt64) = 0) (a := 1239) (b := 1237) (st' := []) inferInstance rfl rfl (fun hb => ?_) (fun hb => ?_)
            · have hq := hq.1 hb
              refine ev_fg [true, true, true, true, true, false, false, true] (loc' := [some (.ref 2000000), some (.ref 0), some (.ref 46), some (.ref 536), some (.int x4), none, none, none]) rfl ?_
              exact s_W_main_1239 (T := T3) hq
            · have hq := hq.2 hb
              refine ev_seq 1 (ip' := 1238) (loc' := [some (.ref 2000000), some (.ref 0), some (.ref 46), some (.ref 536), some (.int x4), some (.int v1), some (.int v2), none]) (st' := [(.int 0)]) (I1 := I3) (T1 := T3) rfl ?_
              exact ev_ret rfl rfl hq
          · have hq := hq.2 hb
            refine ev_fg [true, true, true, true, true, false, false, true] (loc' := [some (.ref 2000000), some (.ref 0), some (.ref 46), some (.ref 536), some (.int x4), none, none, none]) rfl ?_
            exact s_W_main_1239 (T := T3) hq
        · have hq := hq.2 hb
          refine ev_seq 1 (ip' := 1227) (loc' := [some (.ref 2000000), some (.ref 0), some (.ref 46), some (.ref 536), some (.int x4), some (.int v1), some (.int v2), none]) (st' := [(.int 0)]) (I1 := I3) (T1 := T3) rfl ?_
          exact ev_ret rfl rfl hq
      · exact hq.elim
    · exact hq.elim
  · exact hq.elim
def t_W_main_1274 (E : MEnv) (I : II) (T : TT) (Q : QQ) (x4 : Int32) : Prop := t_W_main_1543 E I T Q x4
theorem s_W_main_1274 {E : MEnv} {I : II} {T : TT} {Q : QQ} {x4 : Int32} (hq : t_W_main_1274 E I T Q x4) : ev E 0 1274 [some (.ref 2000000), some (.ref 0), some (.ref 46), some (.ref 536), some (.int x4), none, none, none] [] I T Q := by
  unfold t_W_main_1274 at hq
  refine ev_seq 1 (ip' := 1543) (loc' := [some (.ref 2000000), some (.ref 0), some (.ref 46), some (.ref 536), some (.int x4), none, none, none]) (st' := []) (I1 := I) (T1 := T) rfl ?_
  exact s_W_main_1543 (T := T) hq
def t_W_main_1240 (E : MEnv) (I : II) (T : TT) (Q : QQ) (x4 : Int32) : Prop := (¬ (x4 + 1) < 0 ∧ (x4 + 1).toNatClampNeg < E.2.1) ∧ (ev E 302 0 [some (.ref 0), some (.int (E.2.2 (x4 + 1).toNatClampNeg)), some (.ref 536), none] [] I T (KI (fun v1 I1 T1 => (¬ (x4 + 1) < 0 ∧ (x4 + 1).toNatClampNeg < E.2.1) ∧ (ev E 304 0 [some (.ref 46), some (.int (E.2.2 (x4 + 1).toNatClampNeg))] [] I1 T1 (KI (fun v2 I2 T2 => ev E 76 0 [some (.ref 46)] [] I2 T2 (KI (fun v3 I3 T3 => (v3 = v1 → ((v1 = 0 → (((lg_cmp (T3.1 536 0) v2.toInt64) = 0 → (t_W_main_1274 E I3 T3 Q x4)) ∧ (¬ ((lg_cmp (T3.1 536 0) v2.toInt64) = 0) → (Q (.inl (some (.int 0))) I3 T3)))) ∧ (¬ (v1 = 0) → (t_W_main_1274 E I3 T3 Q x4)))) ∧ (¬ (v3 = v1) → (Q (.inl (some (.int 0))) I3 T3))) (fun _ _ _ => False))) (fun _ _ _ => False)))) (fun _ _ _ => False)))
theorem s_W_main_1240 {E : MEnv} {I : II} {T : TT} {Q : QQ} {x4 : Int32} (hq : t_W_main_1240 E I T Q x4) : ev E 0 1240 [some (.ref 2000000), some (.ref 0), some (.ref 46), some (.ref 536), some (.int x4), none, none, none] [] I T Q := by
  unfold t_W_main_1240 at hq
  refine ev_seq 5 (ip' := 1245) (loc' := [some (.ref 2000000), some (.ref 0), some (.ref 46), some (.ref 536), some (.int x4), none, none, none]) (st' := [(.int (x4 + 1)), (.ref 2000000), (.ref 0)]) (I1 := I) (T1 := T) rfl ?_
  obtain ⟨hg, hq⟩ := hq
  refine ev_xald rfl hg ?_
  refine ev_seq 1 (ip' := 1247) (loc' := [some (.ref 2000000), some (.ref 0), some (.ref 46), some (.ref 536), some (.int x4), none, none, none]) (st' := [(.ref 536), (.int (E.2.2 (x4 + 1).toNatClampNeg)), (.ref 0)]) (I1 := I) (T1 := T) rfl ?_
  refine ev_callI rfl rfl rfl (fun v1 I1 T1 hq => ?_) (fun x I1 T1 hq => ?_) hq
  · refine ev_seq 6 (ip' := 1254) (loc' := [some (.ref 2000000), some (.ref 0), some (.ref 46), some (.ref 536), some (.int x4), some (.int v1), none, none]) (st' := [(.int (x4 + 1)), (.ref 2000000), (.ref 46)]) (I1 := I1) (T1 := T1) rfl ?_
    obtain ⟨hg, hq⟩ := hq
    refine ev_xald rfl hg ?_
    refine ev_callI rfl rfl rfl (fun v2 I2 T2 hq => ?_) (fun x I1 T1 hq => ?_) hq
    · refine ev_seq 2 (ip' := 1258) (loc' := [some (.ref 2000000), some (.ref 0), some (.ref 46), some (.ref 536), some (.int x4), some (.int v1), some (.int v2), none]) (st' := [(.ref 46)]) (I1 := I2) (T1 := T2) rfl ?_
      refine ev_callI rfl rfl rfl (fun v3 I3 T3 hq => ?_) (fun x I1 T1 hq => ?_) hq
      · refine ev_seq 1 (ip' := 1260) (loc' := [some (.ref 2000000), some (.ref 0), some (.ref 46), some (.ref 536), some (.int x4), some (.int v1), some (.int v2), none]) (st' := [(.int v1), (.int v3)]) (I1 := I3) (T1 := T3) rfl ?_
        refine ev_br (p := v3 = v1) (a := 1263) (b := 1261) (st' := []) inferInstance rfl rfl (fun hb => ?_) (fun hb => ?_)
        · have hq := hq.1 hb
          refine ev_seq 1 (ip' := 1264) (loc' := [some (.ref 2000000), some (.ref 0), some (.ref 46), some (.ref 536), some (.int x4), some (.int v1), some (.int v2), none]) (st' := [(.int v1)]) (I1 := I3) (T1 := T3) rfl ?_
          refine ev_br (p := v1 = 0) (a := 1265) (b := 1274) (st' := []) inferInstance rfl rfl (fun hb => ?_) (fun hb => ?_)
          · have hq := hq.1 hb
            refine ev_seq 6 (ip' := 1271) (loc' := [some (.ref 2000000), some (.ref 0), some (.ref 46), some (.ref 536), some (.int x4), some (.int v1), some (.int v2), none]) (st' := [(.int (lg_cmp (T3.1 536 0) v2.toInt64))]) (I1 := I3) (T1 := T3) rfl ?_
            refine ev_br (p := (lg_cmp (T3.1 536 0) v2.toInt64) = 0) (a := 1274) (b := 1272) (st' := []) inferInstance rfl rfl (fun hb => ?_) (fun hb => ?_)
            · have hq := hq.1 hb
              refine ev_fg [true, true, true, true, true, false, false, true] (loc' := [some (.ref 2000000), some (.ref 0), some (.ref 46), some (.ref 536), some (.int x4), none, none, none]) rfl ?_
              exact s_W_main_1274 (T := T3) hq
            · have hq := hq.2 hb
              refine ev_seq 1 (ip' := 1273) (loc' := [some (.ref 2000000), some (.ref 0), some (.ref 46), some (.ref 536), some (.int x4), some (.int v1), some (.int v2), none]) (st' := [(.int 0)]) (I1 := I3) (T1 := T3) rfl ?_
              exact ev_ret rfl rfl hq
          · have hq := hq.2 hb
            refine ev_fg [true, true, true, true, true, false, false, true] (loc' := [some (.ref 2000000), some (.ref 0), some (.ref 46), some (.ref 536), some (.int x4), none, none, none]) rfl ?_
            exact s_W_main_1274 (T := T3) hq
        · have hq := hq.2 hb
          refine ev_seq 1 (ip' := 1262) (loc' := [some (.ref 2000000), some (.ref 0), some (.ref 46), some (.ref 536), some (.int x4), some (.int v1), some (.int v2), none]) (st' := [(.int 0)]) (I1 := I3) (T1 := T3) rfl ?_
          exact ev_ret rfl rfl hq
      · exact hq.elim
    · exact hq.elim
  · exact hq.elim
def t_W_main_1309 (E : MEnv) (I : II) (T : TT) (Q : QQ) (x4 : Int32) : Prop := t_W_main_1543 E I T Q x4
theorem s_W_main_1309 {E : MEnv} {I : II} {T : TT} {Q : QQ} {x4 : Int32} (hq : t_W_main_1309 E I T Q x4) : ev E 0 1309 [some (.ref 2000000), some (.ref 0), some (.ref 46), some (.ref 536), some (.int x4), none, none, none] [] I T Q := by
  unfold t_W_main_1309 at hq
  refine ev_seq 1 (ip' := 1543) (loc' := [some (.ref 2000000), some (.ref 0), some (.ref 46), some (.ref 536), some (.int x4), none, none, none]) (st' := []) (I1 := I) (T1 := T) rfl ?_
  exact s_W_main_1543 (T := T) hq
def t_W_main_1275 (E : MEnv) (I : II) (T : TT) (Q : QQ) (x4 : Int32) : Prop := (¬ (x4 + 1) < 0 ∧ (x4 + 1).toNatClampNeg < E.2.1) ∧ (ev E 305 0 [some (.ref 0), some (.int (E.2.2 (x4 + 1).toNatClampNeg)), some (.ref 536), none] [] I T (KI (fun v1 I1 T1 => (¬ (x4 + 1) < 0 ∧ (x4 + 1).toNatClampNeg < E.2.1) ∧ (ev E 307 0 [some (.ref 46), some (.int (E.2.2 (x4 + 1).toNatClampNeg))] [] I1 T1 (KI (fun v2 I2 T2 => ev E 76 0 [some (.ref 46)] [] I2 T2 (KI (fun v3 I3 T3 => (v3 = v1 → ((v1 = 0 → (((lg_cmp (T3.1 536 0) v2.toInt64) = 0 → (t_W_main_1309 E I3 T3 Q x4)) ∧ (¬ ((lg_cmp (T3.1 536 0) v2.toInt64) = 0) → (Q (.inl (some (.int 0))) I3 T3)))) ∧ (¬ (v1 = 0) → (t_W_main_1309 E I3 T3 Q x4)))) ∧ (¬ (v3 = v1) → (Q (.inl (some (.int 0))) I3 T3))) (fun _ _ _ => False))) (fun _ _ _ => False)))) (fun _ _ _ => False)))
theorem s_W_main_1275 {E : MEnv} {I : II} {T : TT} {Q : QQ} {x4 : Int32} (hq : t_W_main_1275 E I T Q x4) : ev E 0 1275 [some (.ref 2000000), some (.ref 0), some (.ref 46), some (.ref 536), some (.int x4), none, none, none] [] I T Q := by
  unfold t_W_main_1275 at hq
  refine ev_seq 5 (ip' := 1280) (loc' := [some (.ref 2000000), some (.ref 0), some (.ref 46), some (.ref 536), some (.int x4), none, none, none]) (st' := [(.int (x4 + 1)), (.ref 2000000), (.ref 0)]) (I1 := I) (T1 := T) rfl ?_
  obtain ⟨hg, hq⟩ := hq
  refine ev_xald rfl hg ?_
  refine ev_seq 1 (ip' := 1282) (loc' := [some (.ref 2000000), some (.ref 0), some (.ref 46), some (.ref 536), some (.int x4), none, none, none]) (st' := [(.ref 536), (.int (E.2.2 (x4 + 1).toNatClampNeg)), (.ref 0)]) (I1 := I) (T1 := T) rfl ?_
  refine ev_callI rfl rfl rfl (fun v1 I1 T1 hq => ?_) (fun x I1 T1 hq => ?_) hq
  · refine ev_seq 6 (ip' := 1289) (loc' := [some (.ref 2000000), some (.ref 0), some (.ref 46), some (.ref 536), some (.int x4), some (.int v1), none, none]) (st' := [(.int (x4 + 1)), (.ref 2000000), (.ref 46)]) (I1 := I1) (T1 := T1) rfl ?_
    obtain ⟨hg, hq⟩ := hq
    refine ev_xald rfl hg ?_
    refine ev_callI rfl rfl rfl (fun v2 I2 T2 hq => ?_) (fun x I1 T1 hq => ?_) hq
    · refine ev_seq 2 (ip' := 1293) (loc' := [some (.ref 2000000), some (.ref 0), some (.ref 46), some (.ref 536), some (.int x4), some (.int v1), some (.int v2), none]) (st' := [(.ref 46)]) (I1 := I2) (T1 := T2) rfl ?_
      refine ev_callI rfl rfl rfl (fun v3 I3 T3 hq => ?_) (fun x I1 T1 hq => ?_) hq
      · refine ev_seq 1 (ip' := 1295) (loc' := [some (.ref 2000000), some (.ref 0), some (.ref 46), some (.ref 536), some (.int x4), some (.int v1), some (.int v2), none]) (st' := [(.int v1), (.int v3)]) (I1 := I3) (T1 := T3) rfl ?_
        refine ev_br (p := v3 = v1) (a := 1298) (b := 1296) (st' := []) inferInstance rfl rfl (fun hb => ?_) (fun hb => ?_)
        · have hq := hq.1 hb
          refine ev_seq 1 (ip' := 1299) (loc' := [some (.ref 2000000), some (.ref 0), some (.ref 46), some (.ref 536), some (.int x4), some (.int v1), some (.int v2), none]) (st' := [(.int v1)]) (I1 := I3) (T1 := T3) rfl ?_
          refine ev_br (p := v1 = 0) (a := 1300) (b := 1309) (st' := []) inferInstance rfl rfl (fun hb => ?_) (fun hb => ?_)
          · have hq := hq.1 hb
            refine ev_seq 6 (ip' := 1306) (loc' := [some (.ref 2000000), some (.ref 0), some (.ref 46), some (.ref 536), some (.int x4), some (.int v1), some (.int v2), none]) (st' := [(.int (lg_cmp (T3.1 536 0) v2.toInt64))]) (I1 := I3) (T1 := T3) rfl ?_
            refine ev_br (p := (lg_cmp (T3.1 536 0) v2.toInt64) = 0) (a := 1309) (b := 1307) (st' := []) inferInstance rfl rfl (fun hb => ?_) (fun hb => ?_)
            · have hq := hq.1 hb
              refine ev_fg [true, true, true, true, true, false, false, true] (loc' := [some (.ref 2000000), some (.ref 0), some (.ref 46), some (.ref 536), some (.int x4), none, none, none]) rfl ?_
              exact s_W_main_1309 (T := T3) hq
            · have hq := hq.2 hb
              refine ev_seq 1 (ip' := 1308) (loc' := [some (.ref 2000000), some (.ref 0), some (.ref 46), some (.ref 536), some (.int x4), some (.int v1), some (.int v2), none]) (st' := [(.int 0)]) (I1 := I3) (T1 := T3) rfl ?_
              exact ev_ret rfl rfl hq
          · have hq := hq.2 hb
            refine ev_fg [true, true, true, true, true, false, false, true] (loc' := [some (.ref 2000000), some (.ref 0), some (.ref 46), some (.ref 536), some (.int x4), none, none, none]) rfl ?_
            exact s_W_main_1309 (T := T3) hq
        · have hq := hq.2 hb
          refine ev_seq 1 (ip' := 1297) (loc' := [some (.ref 2000000), some (.ref 0), some (.ref 46), some (.ref 536), some (.int x4), some (.int v1), some (.int v2), none]) (st' := [(.int 0)]) (I1 := I3) (T1 := T3) rfl ?_
          exact ev_ret rfl rfl hq
      · exact hq.elim
    · exact hq.elim
  · exact hq.elim
def t_W_main_1344 (E : MEnv) (I : II) (T : TT) (Q : QQ) (x4 : Int32) : Prop := t_W_main_1543 E I T Q x4
theorem s_W_main_1344 {E : MEnv} {I : II} {T : TT} {Q : QQ} {x4 : Int32} (hq : t_W_main_1344 E I T Q x4) : ev E 0 1344 [some (.ref 2000000), some (.ref 0), some (.ref 46), some (.ref 536), some (.int x4), none, none, none] [] I T Q := by
  unfold t_W_main_1344 at hq
  refine ev_seq 1 (ip' := 1543) (loc' := [some (.ref 2000000), some (.ref 0), some (.ref 46), some (.ref 536), some (.int x4), none, none, none]) (st' := []) (I1 := I) (T1 := T) rfl ?_
  exact s_W_main_1543 (T := T) hq
def t_W_main_1310 (E : MEnv) (I : II) (T : TT) (Q : QQ) (x4 : Int32) : Prop := (¬ (x4 + 1) < 0 ∧ (x4 + 1).toNatClampNeg < E.2.1) ∧ (ev E 308 0 [some (.ref 0), some (.int (E.2.2 (x4 + 1).toNatClampNeg)), some (.ref 536), none] [] I T (KI (fun v1 I1 T1 => (¬ (x4 + 1) < 0 ∧ (x4 + 1).toNatClampNeg < E.2.1) ∧ (ev E 310 0 [some (.ref 46), some (.int (E.2.2 (x4 + 1).toNatClampNeg)), none, none] [] I1 T1 (KI (fun v2 I2 T2 => ev E 76 0 [some (.ref 46)] [] I2 T2 (KI (fun v3 I3 T3 => (v3 = v1 → ((v1 = 0 → (((lg_cmp (T3.1 536 0) v2.toInt64) = 0 → (t_W_main_1344 E I3 T3 Q x4)) ∧ (¬ ((lg_cmp (T3.1 536 0) v2.toInt64) = 0) → (Q (.inl (some (.int 0))) I3 T3)))) ∧ (¬ (v1 = 0) → (t_W_main_1344 E I3 T3 Q x4)))) ∧ (¬ (v3 = v1) → (Q (.inl (some (.int 0))) I3 T3))) (fun _ _ _ => False))) (fun _ _ _ => False)))) (fun _ _ _ => False)))
theorem s_W_main_1310 {E : MEnv} {I : II} {T : TT} {Q : QQ} {x4 : Int32} (hq : t_W_main_1310 E I T Q x4) : ev E 0 1310 [some (.ref 2000000), some (.ref 0), some (.ref 46), some (.ref 536), some (.int x4), none, none, none] [] I T Q := by
  unfold t_W_main_1310 at hq
  refine ev_seq 5 (ip' := 1315) (loc' := [some (.ref 2000000), some (.ref 0), some (.ref 46), some (.ref 536), some (.int x4), none, none, none]) (st' := [(.int (x4 + 1)), (.ref 2000000), (.ref 0)]) (I1 := I) (T1 := T) rfl ?_
  obtain ⟨hg, hq⟩ := hq
  refine ev_xald rfl hg ?_
  refine ev_seq 1 (ip' := 1317) (loc' := [some (.ref 2000000), some (.ref 0), some (.ref 46), some (.ref 536), some (.int x4), none, none, none]) (st' := [(.ref 536), (.int (E.2.2 (x4 + 1).toNatClampNeg)), (.ref 0)]) (I1 := I) (T1 := T) rfl ?_
  refine ev_callI rfl rfl rfl (fun v1 I1 T1 hq => ?_) (fun x I1 T1 hq => ?_) hq
  · refine ev_seq 6 (ip' := 1324) (loc' := [some (.ref 2000000), some (.ref 0), some (.ref 46), some (.ref 536), some (.int x4), some (.int v1), none, none]) (st' := [(.int (x4 + 1)), (.ref 2000000), (.ref 46)]) (I1 := I1) (T1 := T1) rfl ?_
    obtain ⟨hg, hq⟩ := hq
    refine ev_xald rfl hg ?_
    refine ev_callI rfl rfl rfl (fun v2 I2 T2 hq => ?_) (fun x I1 T1 hq => ?_) hq
    · refine ev_seq 2 (ip' := 1328) (loc' := [some (.ref 2000000), some (.ref 0), some (.ref 46), some (.ref 536), some (.int x4), some (.int v1), some (.int v2), none]) (st' := [(.ref 46)]) (I1 := I2) (T1 := T2) rfl ?_
      refine ev_callI rfl rfl rfl (fun v3 I3 T3 hq => ?_) (fun x I1 T1 hq => ?_) hq
      · refine ev_seq 1 (ip' := 1330) (loc' := [some (.ref 2000000), some (.ref 0), some (.ref 46), some (.ref 536), some (.int x4), some (.int v1), some (.int v2), none]) (st' := [(.int v1), (.int v3)]) (I1 := I3) (T1 := T3) rfl ?_
        refine ev_br (p := v3 = v1) (a := 1333) (b := 1331) (st' := []) inferInstance rfl rfl (fun hb => ?_) (fun hb => ?_)
        · have hq := hq.1 hb
          refine ev_seq 1 (ip' := 1334) (loc' := [some (.ref 2000000), some (.ref 0), some (.ref 46), some (.ref 536), some (.int x4), some (.int v1), some (.int v2), none]) (st' := [(.int v1)]) (I1 := I3) (T1 := T3) rfl ?_
          refine ev_br (p := v1 = 0) (a := 1335) (b := 1344) (st' := []) inferInstance rfl rfl (fun hb => ?_) (fun hb => ?_)
          · have hq := hq.1 hb
            refine ev_seq 6 (ip' := 1341) (loc' := [some (.ref 2000000), some (.ref 0), some (.ref 46), some (.ref 536), some (.int x4), some (.int v1), some (.int v2), none]) (st' := [(.int (lg_cmp (T3.1 536 0) v2.toInt64))]) (I1 := I3) (T1 := T3) rfl ?_
            refine ev_br (p := (lg_cmp (T3.1 536 0) v2.toInt64) = 0) (a := 1344) (b := 1342) (st' := []) inferInstance rfl rfl (fun hb => ?_) (fun hb => ?_)
            · have hq := hq.1 hb
              refine ev_fg [true, true, true, true, true, false, false, true] (loc' := [some (.ref 2000000), some (.ref 0), some (.ref 46), some (.ref 536), some (.int x4), none, none, none]) rfl ?_
              exact s_W_main_1344 (T := T3) hq
            · have hq := hq.2 hb
              refine ev_seq 1 (ip' := 1343) (loc' := [some (.ref 2000000), some (.ref 0), some (.ref 46), some (.ref 536), some (.int x4), some (.int v1), some (.int v2), none]) (st' := [(.int 0)]) (I1 := I3) (T1 := T3) rfl ?_
              exact ev_ret rfl rfl hq
          · have hq := hq.2 hb
            refine ev_fg [true, true, true, true, true, false, false, true] (loc' := [some (.ref 2000000), some (.ref 0), some (.ref 46), some (.ref 536), some (.int x4), none, none, none]) rfl ?_
            exact s_W_main_1344 (T := T3) hq
        · have hq := hq.2 hb
          refine ev_seq 1 (ip' := 1332) (loc' := [some (.ref 2000000), some (.ref 0), some (.ref 46), some (.ref 536), some (.int x4), some (.int v1), some (.int v2), none]) (st' := [(.int 0)]) (I1 := I3) (T1 := T3) rfl ?_
          exact ev_ret rfl rfl hq
      · exact hq.elim
    · exact hq.elim
  · exact hq.elim
def t_W_main_1409 (E : MEnv) (I : II) (T : TT) (Q : QQ) (x4 : Int32) : Prop := t_W_main_1543 E I T Q x4
theorem s_W_main_1409 {E : MEnv} {I : II} {T : TT} {Q : QQ} {x4 : Int32} (hq : t_W_main_1409 E I T Q x4) : ev E 0 1409 [some (.ref 2000000), some (.ref 0), some (.ref 46), some (.ref 536), some (.int x4), none, none, none] [] I T Q := by
  unfold t_W_main_1409 at hq
  refine ev_seq 1 (ip' := 1543) (loc' := [some (.ref 2000000), some (.ref 0), some (.ref 46), some (.ref 536), some (.int x4), none, none, none]) (st' := []) (I1 := I) (T1 := T) rfl ?_
  exact s_W_main_1543 (T := T) hq
def t_W_main_1345 (E : MEnv) (I : II) (T : TT) (Q : QQ) (x4 : Int32) : Prop := (¬ (x4 + 1) < 0 ∧ (x4 + 1).toNatClampNeg < E.2.1) ∧ ((¬ (x4 + 2) < 0 ∧ (x4 + 2).toNatClampNeg < E.2.1) ∧ ((¬ (x4 + 3) < 0 ∧ (x4 + 3).toNatClampNeg < E.2.1) ∧ ((¬ (x4 + 4) < 0 ∧ (x4 + 4).toNatClampNeg < E.2.1) ∧ (ev E 311 0 [some (.ref 0), some (.int (E.2.2 (x4 + 1).toNatClampNeg)), some (.int (E.2.2 (x4 + 2).toNatClampNeg)), some (.int (E.2.2 (x4 + 3).toNatClampNeg)), some (.int (E.2.2 (x4 + 4).toNatClampNeg)), some (.ref 536), none] [] I T (KI (fun v1 I1 T1 => (¬ (x4 + 1) < 0 ∧ (x4 + 1).toNatClampNeg < E.2.1) ∧ ((¬ (x4 + 2) < 0 ∧ (x4 + 2).toNatClampNeg < E.2.1) ∧ ((¬ (x4 + 3) < 0 ∧ (x4 + 3).toNatClampNeg < E.2.1) ∧ ((¬ (x4 + 4) < 0 ∧ (x4 + 4).toNatClampNeg < E.2.1) ∧ (ev E 317 0 [some (.ref 46), some (.int (E.2.2 (x4 + 1).toNatClampNeg)), some (.int (E.2.2 (x4 + 2).toNatClampNeg)), some (.int (E.2.2 (x4 + 3).toNatClampNeg)), some (.int (E.2.2 (x4 + 4).toNatClampNeg))] [] I1 T1 (KI (fun v2 I2 T2 => ev E 76 0 [some (.ref 46)] [] I2 T2 (KI (fun v3 I3 T3 => (v3 = v1 → ((v1 = 0 → (((lg_cmp (T3.1 536 0) v2.toInt64) = 0 → (t_W_main_1409 E I3 T3 Q x4)) ∧ (¬ ((lg_cmp (T3.1 536 0) v2.toInt64) = 0) → (Q (.inl (some (.int 0))) I3 T3)))) ∧ (¬ (v1 = 0) → (t_W_main_1409 E I3 T3 Q x4)))) ∧ (¬ (v3 = v1) → (Q (.inl (some (.int 0))) I3 T3))) (fun _ _ _ => False))) (fun _ _ _ => False))))))) (fun _ _ _ => False))))))
theorem s_W_main_1345 {E : MEnv} {I : II} {T : TT} {Q : QQ} {x4 : Int32} (hq : t_W_main_1345 E I T Q x4) : ev E 0 1345 [some (.ref 2000000), some (.ref 0), some (.ref 46), some (.ref 536), some (.int x4), none, none, none] [] I T Q := by
  unfold t_W_main_1345 at hq
  refine ev_seq 5 (ip' := 1350) (loc' := [some (.ref 2000000), some (.ref 0), some (.ref 46), some (.ref 536), some (.int x4), none, none, none]) (st' := [(.int (x4 + 1)), (.ref 2000000), (.ref 0)]) (I1 := I) (T1 := T) rfl ?_
  obtain ⟨hg, hq⟩ := hq
  refine ev_xald rfl hg ?_
  refine ev_seq 4 (ip' := 1355) (loc' := [some (.ref 2000000), some (.ref 0), some (.ref 46), some (.ref 536), some (.int x4), none, none, none]) (st' := [(.int (x4 + 2)), (.ref 2000000), (.int (E.2.2 (x4 + 1).toNatClampNeg)), (.ref 0)]) (I1 := I) (T1 := T) rfl ?_
  obtain ⟨hg, hq⟩ := hq
  refine ev_xald rfl hg ?_
  refine ev_seq 4 (ip' := 1360) (loc' := [some (.ref 2000000), some (.ref 0), some (.ref 46), some (.ref 536), some (.int x4), none, none, none]) (st' := [(.int (x4 + 3)), (.ref 2000000), (.int (E.2.2 (x4 + 2).toNatClampNeg)), (.int (E.2.2 (x4 + 1).toNatClampNeg)), (.ref 0)]) (I1 := I) (T1 := T) rfl ?_
  obtain ⟨hg, hq⟩ := hq
  refine ev_xald rfl hg ?_
  refine ev_seq 4 (ip' := 1365) (loc' := [some (.ref 2000000), some (.ref 0), some (.ref 46), some (.ref 536), some (.int x4), none, none, none]) (st' := [(.int (x4 + 4)), (.ref 2000000), (.int (E.2.2 (x4 + 3).toNatClampNeg)), (.int (E.2.2 (x4 + 2).toNatClampNeg)), (.int (E.2.2 (x4 + 1).toNatClampNeg)), (.ref 0)]) (I1 := I) (T1 := T) rfl ?_
  obtain ⟨hg, hq⟩ := hq
  refine ev_xald rfl hg ?_
  refine ev_seq 1 (ip' := 1367) (loc' := [some (.ref 2000000), some (.ref 0), some (.ref 46), some (.ref 536), some (.int x4), none, none, none]) (st' := [(.ref 536), (.int (E.2.2 (x4 + 4).toNatClampNeg)), (.int (E.2.2 (x4 + 3).toNatClampNeg)), (.int (E.2.2 (x4 + 2).toNatClampNeg)), (.int (E.2.2 (x4 + 1).toNatClampNeg)), (.ref 0)]) (I1 := I) (T1 := T) rfl ?_
  refine ev_callI rfl rfl rfl (fun v1 I1 T1 hq => ?_) (fun x I1 T1 hq => ?_) hq
  · refine ev_seq 6 (ip' := 1374) (loc' := [some (.ref 2000000), some (.ref 0), some (.ref 46), some (.ref 536), some (.int x4), some (.int v1), none, none]) (st' := [(.int (x4 + 1)), (.ref 2000000), (.ref 46)]) (I1 := I1) (T1 := T1) rfl ?_
    obtain ⟨hg, hq⟩ := hq
    refine ev_xald rfl hg ?_
    refine ev_seq 4 (ip' := 1379) (loc' := [some (.ref 2000000), some (.ref 0), some (.ref 46), some (.ref 536), some (.int x4), some (.int v1), none, none]) (st' := [(.int (x4 + 2)), (.ref 2000000), (.int (E.2.2 (x4 + 1).toNatClampNeg)), (.ref 46)]) (I1 := I1) (T1 := T1) rfl ?_
    obtain ⟨hg, hq⟩ := hq
    refine ev_xald rfl hg ?_
    refine ev_seq 4 (ip' := 1384) (loc' := [some (.ref 2000000), some (.ref 0), some (.ref 46), some (.ref 536), some (.int x4), some (.int v1), none, none]) (st' := [(.int (x4 + 3)), (.ref 2000000), (.int (E.2.2 (x4 + 2).toNatClampNeg)), (.int (E.2.2 (x4 + 1).toNatClampNeg)), (.ref 46)]) (I1 := I1) (T1 := T1) rfl ?_
    obtain ⟨hg, hq⟩ := hq
    refine ev_xald rfl hg ?_
    refine ev_seq 4 (ip' := 1389) (loc' := [some (.ref 2000000), some (.ref 0), some (.ref 46), some (.ref 536), some (.int x4), some (.int v1), none, none]) (st' := [(.int (x4 + 4)), (.ref 2000000), (.int (E.2.2 (x4 + 3).toNatClampNeg)), (.int (E.2.2 (x4 + 2).toNatClampNeg)), (.int (E.2.2 (x4 + 1).toNatClampNeg)), (.ref 46)]) (I1 := I1) (T1 := T1) rfl ?_
    obtain ⟨hg, hq⟩ := hq
    refine ev_xald rfl hg ?_
    refine ev_callI rfl rfl rfl (fun v2 I2 T2 hq => ?_) (fun x I1 T1 hq => ?_) hq
    · refine ev_seq 2 (ip' := 1393) (loc' := [some (.ref 2000000), some (.ref 0), some (.ref 46), some (.ref 536), some (.int x4), some (.int v1), some (.int v2), none]) (st' := [(.ref 46)]) (I1 := I2) (T1 := T2) rfl ?_
      refine ev_callI rfl rfl rfl (fun v3 I3 T3 hq => ?_) (fun x I1 T1 hq => ?_) hq
      · refine ev_seq 1 (ip' := 1395) (loc' := [some (.ref 2000000), some (.ref 0), some (.ref 46), some (.ref 536), some (.int x4), some (.int v1), some (.int v2), none]) (st' := [(.int v1), (.int v3)]) (I1 := I3) (T1 := T3) rfl ?_
        refine ev_br (p := v3 = v1) (a := 1398) (b := 1396) (st' := []) inferInstance rfl rfl (fun hb => ?_) (fun hb => ?_)
        · have hq := hq.1 hb
          refine ev_seq 1 (ip' := 1399) (loc' := [some (.ref 2000000), some (.ref 0), some (.ref 46), some (.ref 536), some (.int x4), some (.int v1), some (.int v2), none]) (st' := [(.int v1)]) (I1 := I3) (T1 := T3) rfl ?_
          refine ev_br (p := v1 = 0) (a := 1400) (b := 1409) (st' := []) inferInstance rfl rfl (fun hb => ?_) (fun hb => ?_)
          · have hq := hq.1 hb
            refine ev_seq 6 (ip' := 1406) (loc' := [some (.ref 2000000), some (.ref 0), some (.ref 46), some (.ref 536), some (.int x4), some (.int v1), some (.int v2), none]) (st' := [(.int (lg_cmp (T3.1 536 0) v2.toInt64))]) (I1 := I3) (T1 := T3) rfl ?_
            refine ev_br (p := (lg_cmp (T3.1 536 0) v2.toInt64) = 0) (a := 1409) (b := 1407) (st' := []) inferInstance rfl rfl (fun hb => ?_) (fun hb => ?_)
            · have hq := hq.1 hb
              refine ev_fg [true, true, true, true, true, false, false, true] (loc' := [some (.ref 2000000), some (.ref 0), some (.ref 46), some (.ref 536), some (.int x4), none, none, none]) rfl ?_
              exact s_W_main_1409 (T := T3) hq
            · have hq := hq.2 hb
              refine ev_seq 1 (ip' := 1408) (loc' := [some (.ref 2000000), some (.ref 0), some (.ref 46), some (.ref 536), some (.int x4), some (.int v1), some (.int v2), none]) (st' := [(.int 0)]) (I1 := I3) (T1 := T3) rfl ?_
              exact ev_ret rfl rfl hq
          · have hq := hq.2 hb
            refine ev_fg [true, true, true, true, true, false, false, true] (loc' := [some (.ref 2000000), some (.ref 0), some (.ref 46), some (.ref 536), some (.int x4), none, none, none]) rfl ?_
            exact s_W_main_1409 (T := T3) hq
        · have hq := hq.2 hb
          refine ev_seq 1 (ip' := 1397) (loc' := [some (.ref 2000000), some (.ref 0), some (.ref 46), some (.ref 536), some (.int x4), some (.int v1), some (.int v2), none]) (st' := [(.int 0)]) (I1 := I3) (T1 := T3) rfl ?_
          exact ev_ret rfl rfl hq
      · exact hq.elim
    · exact hq.elim
  · exact hq.elim
def t_W_main_1494 (E : MEnv) (I : II) (T : TT) (Q : QQ) (x4 : Int32) : Prop := t_W_main_1543 E I T Q x4
theorem s_W_main_1494 {E : MEnv} {I : II} {T : TT} {Q : QQ} {x4 : Int32} (hq : t_W_main_1494 E I T Q x4) : ev E 0 1494 [some (.ref 2000000), some (.ref 0), some (.ref 46), some (.ref 536), some (.int x4), none, none, none] [] I T Q := by
  unfold t_W_main_1494 at hq
  refine ev_seq 1 (ip' := 1543) (loc' := [some (.ref 2000000), some (.ref 0), some (.ref 46), some (.ref 536), some (.int x4), none, none, none]) (st' := []) (I1 := I) (T1 := T) rfl ?_
  exact s_W_main_1543 (T := T) hq
def t_W_main_1410 (E : MEnv) (I : II) (T : TT) (Q : QQ) (x4 : Int32) : Prop := (¬ (x4 + 1) < 0 ∧ (x4 + 1).toNatClampNeg < E.2.1) ∧ ((¬ (x4 + 2) < 0 ∧ (x4 + 2).toNatClampNeg < E.2.1) ∧ ((¬ (x4 + 3) < 0 ∧ (x4 + 3).toNatClampNeg < E.2.1) ∧ ((¬ (x4 + 4) < 0 ∧ (x4 + 4).toNatClampNeg < E.2.1) ∧ ((¬ (x4 + 5) < 0 ∧ (x4 + 5).toNatClampNeg < E.2.1) ∧ ((¬ (x4 + 6) < 0 ∧ (x4 + 6).toNatClampNeg < E.2.1) ∧ (ev E 321 0 [some (.ref 0), some (.int (E.2.2 (x4 + 1).toNatClampNeg)), some (.int (E.2.2 (x4 + 2).toNatClampNeg)), some (.int (E.2.2 (x4 + 3).toNatClampNeg)), some (.int (E.2.2 (x4 + 4).toNatClampNeg)), some (.int (E.2.2 (x4 + 5).toNatClampNeg)), some (.int (E.2.2 (x4 + 6).toNatClampNeg)), some (.ref 536), none] [] I T (KI (fun v1 I1 T1 => (¬ (x4 + 1) < 0 ∧ (x4 + 1).toNatClampNeg < E.2.1) ∧ ((¬ (x4 + 2) < 0 ∧ (x4 + 2).toNatClampNeg < E.2.1) ∧ ((¬ (x4 + 3) < 0 ∧ (x4 + 3).toNatClampNeg < E.2.1) ∧ ((¬ (x4 + 4) < 0 ∧ (x4 + 4).toNatClampNeg < E.2.1) ∧ ((¬ (x4 + 5) < 0 ∧ (x4 + 5).toNatClampNeg < E.2.1) ∧ ((¬ (x4 + 6) < 0 ∧ (x4 + 6).toNatClampNeg < E.2.1) ∧ (ev E 323 0 [some (.ref 46), some (.int (E.2.2 (x4 + 1).toNatClampNeg)), some (.int (E.2.2 (x4 + 2).toNatClampNeg)), some (.int (E.2.2 (x4 + 3).toNatClampNeg)), some (.int (E.2.2 (x4 + 4).toNatClampNeg)), some (.int (E.2.2 (x4 + 5).toNatClampNeg)), some (.int (E.2.2 (x4 + 6).toNatClampNeg)), none, none, none, none, none] [] I1 T1 (KI (fun v2 I2 T2 => ev E 76 0 [some (.ref 46)] [] I2 T2 (KI (fun v3 I3 T3 => (v3 = v1 → ((v1 = 0 → (((lg_cmp (T3.1 536 0) v2.toInt64) = 0 → (t_W_main_1494 E I3 T3 Q x4)) ∧ (¬ ((lg_cmp (T3.1 536 0) v2.toInt64) = 0) → (Q (.inl (some (.int 0))) I3 T3)))) ∧ (¬ (v1 = 0) → (t_W_main_1494 E I3 T3 Q x4)))) ∧ (¬ (v3 = v1) → (Q (.inl (some (.int 0))) I3 T3))) (fun _ _ _ => False))) (fun _ _ _ => False))))))))) (fun _ _ _ => False))))))))
theorem s_W_main_1410 {E : MEnv} {I : II} {T : TT} {Q : QQ} {x4 : Int32} (hq : t_W_main_1410 E I T Q x4) : ev E 0 1410 [some (.ref 2000000), some (.ref 0), some (.ref 46), some (.ref 536), some (.int x4), none, none, none] [] I T Q := by
  unfold t_W_main_1410 at hq
  refine ev_seq 5 (ip' := 1415) (loc' := [some (.ref 2000000), some (.ref 0), some (.ref 46), some (.ref 536), some (.int x4), none, none, none]) (st' := [(.int (x4 + 1)), (.ref 2000000), (.ref 0)]) (I1 := I) (T1 := T) rfl ?_
  obtain ⟨hg, hq⟩ := hq
  refine ev_xald rfl hg ?_
  refine ev_seq 4 (ip' := 1420) (loc' := [some (.ref 2000000), some (.ref 0), some (.ref 46), some (.ref 536), some (.int x4), none, none, none]) (st' := [(.int (x4 + 2)), (.ref 2000000), (.int (E.2.2 (x4 + 1).toNatClampNeg)), (.ref 0)]) (I1 := I) (T1 := T) rfl ?_
  obtain ⟨hg, hq⟩ := hq
  refine ev_xald rfl hg ?_
  refine ev_seq 4 (ip' := 1425) (loc' := [some (.ref 2000000), some (.ref 0), some (.ref 46), some (.ref 536), some (.int x4), none, none, none]) (st' := [(.int (x4 + 3)), (.ref 2000000), (.int (E.2.2 (x4 + 2).toNatClampNeg)), (.int (E.2.2 (x4 + 1).toNatClampNeg)), (.ref 0)]) (I1 := I) (T1 := T) rfl ?_
  obtain ⟨hg, hq⟩ := hq
  refine ev_xald rfl hg ?_
  refine ev_seq 4 (ip' := 1430) (loc' := [some (.ref 2000000), some (.ref 0), some (.ref 46), some (.ref 536), some (.int x4), none, none, none]) (st' := [(.int (x4 + 4)), (.ref 2000000), (.int (E.2.2 (x4 + 3).toNatClampNeg)), (.int (E.2.2 (x4 + 2).toNatClampNeg)), (.int (E.2.2 (x4 + 1).toNatClampNeg)), (.ref 0)]) (I1 := I) (T1 := T) rfl ?_
  obtain ⟨hg, hq⟩ := hq
  refine ev_xald rfl hg ?_
  refine ev_seq 4 (ip' := 1435) (loc' := [some (.ref 2000000), some (.ref 0), some (.ref 46), some (.ref 536), some (.int x4), none, none, none]) (st' := [(.int (x4 + 5)), (.ref 2000000), (.int (E.2.2 (x4 + 4).toNatClampNeg)), (.int (E.2.2 (x4 + 3).toNatClampNeg)), (.int (E.2.2 (x4 + 2).toNatClampNeg)), (.int (E.2.2 (x4 + 1).toNatClampNeg)), (.ref 0)]) (I1 := I) (T1 := T) rfl ?_
  obtain ⟨hg, hq⟩ := hq
  refine ev_xald rfl hg ?_
  refine ev_seq 4 (ip' := 1440) (loc' := [some (.ref 2000000), some (.ref 0), some (.ref 46), some (.ref 536), some (.int x4), none, none, none]) (st' := [(.int (x4 + 6)), (.ref 2000000), (.int (E.2.2 (x4 + 5).toNatClampNeg)), (.int (E.2.2 (x4 + 4).toNatClampNeg)), (.int (E.2.2 (x4 + 3).toNatClampNeg)), (.int (E.2.2 (x4 + 2).toNatClampNeg)), (.int (E.2.2 (x4 + 1).toNatClampNeg)), (.ref 0)]) (I1 := I) (T1 := T) rfl ?_
  obtain ⟨hg, hq⟩ := hq
  refine ev_xald rfl hg ?_
  refine ev_seq 1 (ip' := 1442) (loc' := [some (.ref 2000000), some (.ref 0), some (.ref 46), some (.ref 536), some (.int x4), none, none, none]) (st' := [(.ref 536), (.int (E.2.2 (x4 + 6).toNatClampNeg)), (.int (E.2.2 (x4 + 5).toNatClampNeg)), (.int (E.2.2 (x4 + 4).toNatClampNeg)), (.int (E.2.2 (x4 + 3).toNatClampNeg)), (.int (E.2.2 (x4 + 2).toNatClampNeg)), (.int (E.2.2 (x4 + 1).toNatClampNeg)), (.ref 0)]) (I1 := I) (T1 := T) rfl ?_
  refine ev_callI rfl rfl rfl (fun v1 I1 T1 hq => ?_) (fun x I1 T1 hq => ?_) hq
  · refine ev_seq 6 (ip' := 1449) (loc' := [some (.ref 2000000), some (.ref 0), some (.ref 46), some (.ref 536), some (.int x4), some (.int v1), none, none]) (st' := [(.int (x4 + 1)), (.ref 2000000), (.ref 46)]) (I1 := I1) (T1 := T1) rfl ?_
    obtain ⟨hg, hq⟩ := hq
    refine ev_xald rfl hg ?_
    refine ev_seq 4 (ip' := 1454) (loc' := [some (.ref 2000000), some (.ref 0), some (.ref 46), some (.ref 536), some (.int x4), some (.int v1), none, none]) (st' := [(.int (x4 + 2)), (.ref 2000000), (.int (E.2.2 (x4 + 1).toNatClampNeg)), (.ref 46)]) (I1 := I1) (T1 := T1) rfl ?_
    obtain ⟨hg, hq⟩ := hq
    refine ev_xald rfl hg ?_
    refine ev_seq 4 (ip' := 1459) (loc' := [some (.ref 2000000), some (.ref 0), some (.ref 46), some (.ref 536), some (.int x4), some (.int v1), none, none]) (st' := [(.int (x4 + 3)), (.ref 2000000), (.int (E.2.2 (x4 + 2).toNatClampNeg)), (.int (E.2.2 (x4 + 1).toNatClampNeg)), (.ref 46)]) (I1 := I1) (T1 := T1) rfl ?_
    obtain ⟨hg, hq⟩ := hq
    refine ev_xald rfl hg ?_
    refine ev_seq 4 (ip' := 1464) (loc' := [some (.ref 2000000), some (.ref 0), some (.ref 46), some (.ref 536), some (.int x4), some (.int v1), none, none]) (st' := [(.int (x4 + 4)), (.ref 2000000), (.int (E.2.2 (x4 + 3).toNatClampNeg)), (.int (E.2.2 (x4 + 2).toNatClampNeg)), (.int (E.2.2 (x4 + 1).toNatClampNeg)), (.ref 46)]) (I1 := I1) (T1 := T1) rfl ?_
    obtain ⟨hg, hq⟩ := hq
    refine ev_xald rfl hg ?_
    refine ev_seq 4 (ip' := 1469) (loc' := [some (.ref 2000000), some (.ref 0), some (.ref 46), some (.ref 536), some (.int x4), some (.int v1), none, none]) (st' := [(.int (x4 + 5)), (.ref 2000000), (.int (E.2.2 (x4 + 4).toNatClampNeg)), (.int (E.2.2 (x4 + 3).toNatClampNeg)), (.int (E.2.2 (x4 + 2).toNatClampNeg)), (.int (E.2.2 (x4 + 1).toNatClampNeg)), (.ref 46)]) (I1 := I1) (T1 := T1) rfl ?_
    obtain ⟨hg, hq⟩ := hq
    refine ev_xald rfl hg ?_
    refine ev_seq 4 (ip' := 1474) (loc' := [some (.ref 2000000), some (.ref 0), some (.ref 46), some (.ref 536), some (.int x4), some (.int v1), none, none]) (st' := [(.int (x4 + 6)), (.ref 2000000), (.int (E.2.2 (x4 + 5).toNatClampNeg)), (.int (E.2.2 (x4 + 4).toNatClampNeg)), (.int (E.2.2 (x4 + 3).toNatClampNeg)), (.int (E.2.2 (x4 + 2).toNatClampNeg)), (.int (E.2.2 (x4 + 1).toNatClampNeg)), (.ref 46)]) (I1 := I1) (T1 := T1) rfl ?_
    obtain ⟨hg, hq⟩ := hq
    refine ev_xald rfl hg ?_
    refine ev_callI rfl rfl rfl (fun v2 I2 T2 hq => ?_) (fun x I1 T1 hq => ?_) hq
    · refine ev_seq 2 (ip' := 1478) (loc' := [some (.ref 2000000), some (.ref 0), some (.ref 46), some (.ref 536), some (.int x4), some (.int v1), some (.int v2), none]) (st' := [(.ref 46)]) (I1 := I2) (T1 := T2) rfl ?_
      refine ev_callI rfl rfl rfl (fun v3 I3 T3 hq => ?_) (fun x I1 T1 hq => ?_) hq
      · refine ev_seq 1 (ip' := 1480) (loc' := [some (.ref 2000000), some (.ref 0), some (.ref 46), some (.ref 536), some (.int x4), some (.int v1), some (.int v2), none]) (st' := [(.int v1), (.int v3)]) (I1 := I3) (T1 := T3) rfl ?_
        refine ev_br (p := v3 = v1) (a := 1483) (b := 1481) (st' := []) inferInstance rfl rfl (fun hb => ?_) (fun hb => ?_)
        · have hq := hq.1 hb
          refine ev_seq 1 (ip' := 1484) (loc' := [some (.ref 2000000), some (.ref 0), some (.ref 46), some (.ref 536), some (.int x4), some (.int v1), some (.int v2), none]) (st' := [(.int v1)]) (I1 := I3) (T1 := T3) rfl ?_
          refine ev_br (p := v1 = 0) (a := 1485) (b := 1494) (st' := []) inferInstance rfl rfl (fun hb => ?_) (fun hb => ?_)
          · have hq := hq.1 hb
            refine ev_seq 6 (ip' := 1491) (loc' := [some (.ref 2000000), some (.ref 0), some (.ref 46), some (.ref 536), some (.int x4), some (.int v1), some (.int v2), none]) (st' := [(.int (lg_cmp (T3.1 536 0) v2.toInt64))]) (I1 := I3) (T1 := T3) rfl ?_
            refine ev_br (p := (lg_cmp (T3.1 536 0) v2.toInt64) = 0) (a := 1494) (b := 1492) (st' := []) inferInstance rfl rfl (fun hb => ?_) (fun hb => ?_)
            · have hq := hq.1 hb
              refine ev_fg [true, true, true, true, true, false, false, true] (loc' := [some (.ref 2000000), some (.ref 0), some (.ref 46), some (.ref 536), some (.int x4), none, none, none]) rfl ?_
              exact s_W_main_1494 (T := T3) hq
            · have hq := hq.2 hb
              refine ev_seq 1 (ip' := 1493) (loc' := [some (.ref 2000000), some (.ref 0), some (.ref 46), some (.ref 536), some (.int x4), some (.int v1), some (.int v2), none]) (st' := [(.int 0)]) (I1 := I3) (T1 := T3) rfl ?_
              exact ev_ret rfl rfl hq
          · have hq := hq.2 hb
            refine ev_fg [true, true, true, true, true, false, false, true] (loc' := [some (.ref 2000000), some (.ref 0), some (.ref 46), some (.ref 536), some (.int x4), none, none, none]) rfl ?_
            exact s_W_main_1494 (T := T3) hq
        · have hq := hq.2 hb
          refine ev_seq 1 (ip' := 1482) (loc' := [some (.ref 2000000), some (.ref 0), some (.ref 46), some (.ref 536), some (.int x4), some (.int v1), some (.int v2), none]) (st' := [(.int 0)]) (I1 := I3) (T1 := T3) rfl ?_
          exact ev_ret rfl rfl hq
      · exact hq.elim
    · exact hq.elim
  · exact hq.elim
def t_W_main_1495 (E : MEnv) (I : II) (T : TT) (Q : QQ) (x4 : Int32) : Prop := ev E 324 0 [some (.ref 0)] [] I T (KI (fun v1 I1 T1 => ev E 326 0 [some (.ref 46)] [] I1 T1 (KI (fun v2 I2 T2 => (v1 = v2 → (t_W_main_1543 E I2 T2 Q x4)) ∧ (¬ (v1 = v2) → (Q (.inl (some (.int 0))) I2 T2))) (fun _ _ _ => False))) (fun _ _ _ => False))
theorem s_W_main_1495 {E : MEnv} {I : II} {T : TT} {Q : QQ} {x4 : Int32} (hq : t_W_main_1495 E I T Q x4) : ev E 0 1495 [some (.ref 2000000), some (.ref 0), some (.ref 46), some (.ref 536), some (.int x4), none, none, none] [] I T Q := by
  unfold t_W_main_1495 at hq
  refine ev_seq 1 (ip' := 1496) (loc' := [some (.ref 2000000), some (.ref 0), some (.ref 46), some (.ref 536), some (.int x4), none, none, none]) (st' := [(.ref 0)]) (I1 := I) (T1 := T) rfl ?_
  refine ev_callI rfl rfl rfl (fun v1 I1 T1 hq => ?_) (fun x I1 T1 hq => ?_) hq
  · refine ev_seq 1 (ip' := 1498) (loc' := [some (.ref 2000000), some (.ref 0), some (.ref 46), some (.ref 536), some (.int x4), none, none, none]) (st' := [(.ref 46), (.int v1)]) (I1 := I1) (T1 := T1) rfl ?_
    refine ev_callI rfl rfl rfl (fun v2 I2 T2 hq => ?_) (fun x I1 T1 hq => ?_) hq
    · refine ev_br (p := v1 = v2) (a := 1543) (b := 1500) (st' := []) inferInstance rfl rfl (fun hb => ?_) (fun hb => ?_)
      · have hq := hq.1 hb
        exact s_W_main_1543 (T := T2) hq
      · have hq := hq.2 hb
        refine ev_seq 1 (ip' := 1501) (loc' := [some (.ref 2000000), some (.ref 0), some (.ref 46), some (.ref 536), some (.int x4), none, none, none]) (st' := [(.int 0)]) (I1 := I2) (T1 := T2) rfl ?_
        exact ev_ret rfl rfl hq
    · exact hq.elim
  · exact hq.elim
def t_W_main_1502 (E : MEnv) (I : II) (T : TT) (Q : QQ) (x4 : Int32) : Prop := ev E 329 0 [some (.ref 0)] [] I T (KI (fun v1 I1 T1 => ev E 331 0 [some (.ref 46)] [] I1 T1 (KI (fun v2 I2 T2 => (v1 = v2 → (t_W_main_1543 E I2 T2 Q x4)) ∧ (¬ (v1 = v2) → (Q (.inl (some (.int 0))) I2 T2))) (fun _ _ _ => False))) (fun _ _ _ => False))
theorem s_W_main_1502 {E : MEnv} {I : II} {T : TT} {Q : QQ} {x4 : Int32} (hq : t_W_main_1502 E I T Q x4) : ev E 0 1502 [some (.ref 2000000), some (.ref 0), some (.ref 46), some (.ref 536), some (.int x4), none, none, none] [] I T Q := by
  unfold t_W_main_1502 at hq
  refine ev_seq 1 (ip' := 1503) (loc' := [some (.ref 2000000), some (.ref 0), some (.ref 46), some (.ref 536), some (.int x4), none, none, none]) (st' := [(.ref 0)]) (I1 := I) (T1 := T) rfl ?_
  refine ev_callI rfl rfl rfl (fun v1 I1 T1 hq => ?_) (fun x I1 T1 hq => ?_) hq
  · refine ev_seq 1 (ip' := 1505) (loc' := [some (.ref 2000000), some (.ref 0), some (.ref 46), some (.ref 536), some (.int x4), none, none, none]) (st' := [(.ref 46), (.int v1)]) (I1 := I1) (T1 := T1) rfl ?_
    refine ev_callI rfl rfl rfl (fun v2 I2 T2 hq => ?_) (fun x I1 T1 hq => ?_) hq
    · refine ev_br (p := v1 = v2) (a := 1543) (b := 1507) (st' := []) inferInstance rfl rfl (fun hb => ?_) (fun hb => ?_)
      · have hq := hq.1 hb
        exact s_W_main_1543 (T := T2) hq
      · have hq := hq.2 hb
        refine ev_seq 1 (ip' := 1508) (loc' := [some (.ref 2000000), some (.ref 0), some (.ref 46), some (.ref 536), some (.int x4), none, none, none]) (st' := [(.int 0)]) (I1 := I2) (T1 := T2) rfl ?_
        exact ev_ret rfl rfl hq
    · exact hq.elim
  · exact hq.elim
def t_W_main_1509 (E : MEnv) (I : II) (T : TT) (Q : QQ) (x4 : Int32) : Prop := (¬ (x4 + 1) < 0 ∧ (x4 + 1).toNatClampNeg < E.2.1) ∧ (ev E 332 0 [some (.ref 0), some (.int (E.2.2 (x4 + 1).toNatClampNeg))] [] I T (KI (fun v1 I1 T1 => (¬ (x4 + 1) < 0 ∧ (x4 + 1).toNatClampNeg < E.2.1) ∧ (ev E 333 0 [some (.ref 46), some (.int (E.2.2 (x4 + 1).toNatClampNeg))] [] I1 T1 (KI (fun v2 I2 T2 => (v1 = v2 → (t_W_main_1543 E I2 T2 Q x4)) ∧ (¬ (v1 = v2) → (Q (.inl (some (.int 0))) I2 T2))) (fun _ _ _ => False)))) (fun _ _ _ => False)))
theorem s_W_main_1509 {E : MEnv} {I : II} {T : TT} {Q : QQ} {x4 : Int32} (hq : t_W_main_1509 E I T Q x4) : ev E 0 1509 [some (.ref 2000000), some (.ref 0), some (.ref 46), some (.ref 536), some (.int x4), none, none, none] [] I T Q := by
  unfold t_W_main_1509 at hq
  refine ev_seq 5 (ip' := 1514) (loc' := [some (.ref 2000000), some (.ref 0), some (.ref 46), some (.ref 536), some (.int x4), none, none, none]) (st' := [(.int (x4 + 1)), (.ref 2000000), (.ref 0)]) (I1 := I) (T1 := T) rfl ?_
  obtain ⟨hg, hq⟩ := hq
  refine ev_xald rfl hg ?_
  refine ev_callI rfl rfl rfl (fun v1 I1 T1 hq => ?_) (fun x I1 T1 hq => ?_) hq
  · refine ev_seq 5 (ip' := 1521) (loc' := [some (.ref 2000000), some (.ref 0), some (.ref 46), some (.ref 536), some (.int x4), none, none, none]) (st' := [(.int (x4 + 1)), (.ref 2000000), (.ref 46), (.int v1)]) (I1 := I1) (T1 := T1) rfl ?_
    obtain ⟨hg, hq⟩ := hq
    refine ev_xald rfl hg ?_
    refine ev_callI rfl rfl rfl (fun v2 I2 T2 hq => ?_) (fun x I1 T1 hq => ?_) hq
    · refine ev_br (p := v1 = v2) (a := 1543) (b := 1524) (st' := []) inferInstance rfl rfl (fun hb => ?_) (fun hb => ?_)
      · have hq := hq.1 hb
        exact s_W_main_1543 (T := T2) hq
      · have hq := hq.2 hb
        refine ev_seq 1 (ip' := 1525) (loc' := [some (.ref 2000000), some (.ref 0), some (.ref 46), some (.ref 536), some (.int x4), none, none, none]) (st' := [(.int 0)]) (I1 := I2) (T1 := T2) rfl ?_
        exact ev_ret rfl rfl hq
    · exact hq.elim
  · exact hq.elim
def t_W_main_1526 (E : MEnv) (I : II) (T : TT) (Q : QQ) (x4 : Int32) : Prop := (¬ (x4 + 1) < 0 ∧ (x4 + 1).toNatClampNeg < E.2.1) ∧ (ev E 334 0 [some (.ref 0), some (.int (E.2.2 (x4 + 1).toNatClampNeg))] [] I T (KI (fun v1 I1 T1 => (¬ (x4 + 1) < 0 ∧ (x4 + 1).toNatClampNeg < E.2.1) ∧ (ev E 335 0 [some (.ref 46), some (.int (E.2.2 (x4 + 1).toNatClampNeg))] [] I1 T1 (KI (fun v2 I2 T2 => (v1 = v2 → (t_W_main_1543 E I2 T2 Q x4)) ∧ (¬ (v1 = v2) → (Q (.inl (some (.int 0))) I2 T2))) (fun _ _ _ => False)))) (fun _ _ _ => False)))
theorem s_W_main_1526 {E : MEnv} {I : II} {T : TT} {Q : QQ} {x4 : Int32} (hq : t_W_main_1526 E I T Q x4) : ev E 0 1526 [some (.ref 2000000), some (.ref 0), some (.ref 46), some (.ref 536), some (.int x4), none, none, none] [] I T Q := by
  unfold t_W_main_1526 at hq
  refine ev_seq 5 (ip' := 1531) (loc' := [some (.ref 2000000), some (.ref 0), some (.ref 46), some (.ref 536), some (.int x4), none, none, none]) (st' := [(.int (x4 + 1)), (.ref 2000000), (.ref 0)]) (I1 := I) (T1 := T) rfl ?_
  obtain ⟨hg, hq⟩ := hq
  refine ev_xald rfl hg ?_
  refine ev_callI rfl rfl rfl (fun v1 I1 T1 hq => ?_) (fun x I1 T1 hq => ?_) hq
  · refine ev_seq 5 (ip' := 1538) (loc' := [some (.ref 2000000), some (.ref 0), some (.ref 46), some (.ref 536), some (.int x4), none, none, none]) (st' := [(.int (x4 + 1)), (.ref 2000000), (.ref 46), (.int v1)]) (I1 := I1) (T1 := T1) rfl ?_
    obtain ⟨hg, hq⟩ := hq
    refine ev_xald rfl hg ?_
    refine ev_callI rfl rfl rfl (fun v2 I2 T2 hq => ?_) (fun x I1 T1 hq => ?_) hq
    · refine ev_br (p := v1 = v2) (a := 1543) (b := 1541) (st' := []) inferInstance rfl rfl (fun hb => ?_) (fun hb => ?_)
      · have hq := hq.1 hb
        exact s_W_main_1543 (T := T2) hq
      · have hq := hq.2 hb
        refine ev_seq 1 (ip' := 1542) (loc' := [some (.ref 2000000), some (.ref 0), some (.ref 46), some (.ref 536), some (.int x4), none, none, none]) (st' := [(.int 0)]) (I1 := I2) (T1 := T2) rfl ?_
        exact ev_ret rfl rfl hq
    · exact hq.elim
  · exact hq.elim
