/-- FeltHarnessModel.putsAll([IZ)V -/
def t_M_putsAll_R_37 (E : MEnv) (I : II) (T : TT) (Q : QQ) (x1 : Nat) (x2 : Int32) (x3 : Int32) (x4 : Int32) : Prop := (29 ≤ x4 → (ev E 327 32 [some (.ref 46), some (.ref x1), some (.int x2), some (.int (x3 + 1)), none] [] I T Q)) ∧ (¬ (29 ≤ x4) → ((¬ x3 < 0 ∧ x3.toNatClampNeg < 16) ∧ ((¬ x3 < 0 ∧ x3.toNatClampNeg < 16) ∧ ((¬ x4 < 0 ∧ x4.toNatClampNeg < 29) ∧ (ev E 328 0 [some (.ref 46), some (.ref x1), some (.int (I (511 + x3.toNatClampNeg) x4.toNatClampNeg)), some (.int x2)] [] I T (KI (fun v3 I3 T3 => (¬ x4 < 0 ∧ x4.toNatClampNeg < 29) ∧ (ev E 327 37 [some (.ref 46), some (.ref x1), some (.int x2), some (.int x3), some (.int (x4 + 1))] [] (m_up I3 (511 + x3.toNatClampNeg) x4.toNatClampNeg v3) T3 Q)) (fun x I1 T1 => Q (.inr x) I1 T1)))))))
theorem s_M_putsAll_R_37 {E : MEnv} {I : II} {T : TT} {Q : QQ} {x1 : Nat} {x2 : Int32} {x3 : Int32} {x4 : Int32} (hK_x1 : m_K x1 = (1, 494)) (hq : t_M_putsAll_R_37 E I T Q x1 x2 x3 x4) : ev E 327 37 [some (.ref 46), some (.ref x1), some (.int x2), some (.int x3), some (.int x4)] [] I T Q := by
  unfold t_M_putsAll_R_37 at hq
  refine ev_seq 2 (ip' := 39) (loc' := [some (.ref 46), some (.ref x1), some (.int x2), some (.int x3), some (.int x4)]) (st' := [(.int 29), (.int x4)]) (I1 := I) (T1 := T) rfl ?_
  refine ev_br (p := 29 ≤ x4) (a := 58) (b := 40) (st' := []) inferInstance rfl rfl (fun hb => ?_) (fun hb => ?_)
  · have hq := hq.1 hb
    refine ev_seq 2 (ip' := 32) (loc' := [some (.ref 46), some (.ref x1), some (.int x2), some (.int (x3 + 1)), some (.int x4)]) (st' := []) (I1 := I) (T1 := T) rfl ?_
    refine ev_fg [true, true, true, true, false] (loc' := [some (.ref 46), some (.ref x1), some (.int x2), some (.int (x3 + 1)), none]) rfl ?_
    exact hq
  · have hq := hq.2 hb
    refine ev_seq 3 (ip' := 43) (loc' := [some (.ref 46), some (.ref x1), some (.int x2), some (.int x3), some (.int x4)]) (st' := [(.int x3), (.ref 510)]) (I1 := I) (T1 := T) rfl ?_
    obtain ⟨hg, hq⟩ := hq
    have hr1 := hg
    refine ev_aald rfl rfl hg (RF_510 hg.2) ?_
    refine ev_seq 6 (ip' := 50) (loc' := [some (.ref 46), some (.ref x1), some (.int x2), some (.int x3), some (.int x4)]) (st' := [(.int x3), (.ref 510), (.ref x1), (.ref 46), (.int x4), (.ref (511 + x3.toNatClampNeg))]) (I1 := I) (T1 := T) rfl ?_
    obtain ⟨hg, hq⟩ := hq
    have hr2 := hg
    refine ev_aald rfl rfl hg (RF_510 hg.2) ?_
    refine ev_seq 1 (ip' := 52) (loc' := [some (.ref 46), some (.ref x1), some (.int x2), some (.int x3), some (.int x4)]) (st' := [(.int x4), (.ref (511 + x3.toNatClampNeg)), (.ref x1), (.ref 46), (.int x4), (.ref (511 + x3.toNatClampNeg))]) (I1 := I) (T1 := T) rfl ?_
    obtain ⟨hg, hq⟩ := hq
    refine ev_iald rfl (KF_510 hr2.2) hg ?_
    refine ev_seq 1 (ip' := 54) (loc' := [some (.ref 46), some (.ref x1), some (.int x2), some (.int x3), some (.int x4)]) (st' := [(.int x2), (.int (I (511 + x3.toNatClampNeg) x4.toNatClampNeg)), (.ref x1), (.ref 46), (.int x4), (.ref (511 + x3.toNatClampNeg))]) (I1 := I) (T1 := T) rfl ?_
    refine ev_callI rfl rfl rfl (fun v3 I3 T3 hq => ?_) (fun x I1 T1 hq => ?_) hq
    · obtain ⟨hg, hq⟩ := hq
      refine ev_iast rfl (KF_510 hr1.2) hg ?_
      refine ev_seq 2 (ip' := 37) (loc' := [some (.ref 46), some (.ref x1), some (.int x2), some (.int x3), some (.int (x4 + 1))]) (st' := []) (I1 := m_up I3 (511 + x3.toNatClampNeg) x4.toNatClampNeg v3) (T1 := T3) rfl ?_
      exact hq
    · exact ⟨by decide, hq⟩
def t_M_putsAll_R_32 (E : MEnv) (I : II) (T : TT) (Q : QQ) (x1 : Nat) (x2 : Int32) (x3 : Int32) : Prop := (16 ≤ x3 → (Q (.inl none) I T)) ∧ (¬ (16 ≤ x3) → (t_M_putsAll_R_37 E I T Q x1 x2 x3 0))
theorem s_M_putsAll_R_32 {E : MEnv} {I : II} {T : TT} {Q : QQ} {x1 : Nat} {x2 : Int32} {x3 : Int32} (hK_x1 : m_K x1 = (1, 494)) (hq : t_M_putsAll_R_32 E I T Q x1 x2 x3) : ev E 327 32 [some (.ref 46), some (.ref x1), some (.int x2), some (.int x3), none] [] I T Q := by
  unfold t_M_putsAll_R_32 at hq
  refine ev_seq 2 (ip' := 34) (loc' := [some (.ref 46), some (.ref x1), some (.int x2), some (.int x3), none]) (st' := [(.int 16), (.int x3)]) (I1 := I) (T1 := T) rfl ?_
  refine ev_br (p := 16 ≤ x3) (a := 60) (b := 35) (st' := []) inferInstance rfl rfl (fun hb => ?_) (fun hb => ?_)
  · have hq := hq.1 hb
    exact ev_ret rfl rfl hq
  · have hq := hq.2 hb
    refine ev_seq 2 (ip' := 37) (loc' := [some (.ref 46), some (.ref x1), some (.int x2), some (.int x3), some (.int 0)]) (st' := []) (I1 := I) (T1 := T) rfl ?_
    exact s_M_putsAll_R_37 (T := T) hK_x1 hq
def t_M_putsAll_R_13 (E : MEnv) (I : II) (T : TT) (Q : QQ) (x1 : Nat) (x2 : Int32) (x3 : Int32) : Prop := (29 ≤ x3 → (t_M_putsAll_R_32 E I T Q x1 x2 0)) ∧ (¬ (29 ≤ x3) → ((¬ x3 < 0 ∧ x3.toNatClampNeg < 29) ∧ (ev E 328 0 [some (.ref 46), some (.ref x1), some (.int (I 508 x3.toNatClampNeg)), some (.int x2)] [] I T (KI (fun v1 I1 T1 => (¬ x3 < 0 ∧ x3.toNatClampNeg < 29) ∧ (ev E 327 13 [some (.ref 46), some (.ref x1), some (.int x2), some (.int (x3 + 1)), none] [] (m_up I1 508 x3.toNatClampNeg v1) T1 Q)) (fun x I1 T1 => Q (.inr x) I1 T1)))))
theorem s_M_putsAll_R_13 {E : MEnv} {I : II} {T : TT} {Q : QQ} {x1 : Nat} {x2 : Int32} {x3 : Int32} (hK_x1 : m_K x1 = (1, 494)) (hq : t_M_putsAll_R_13 E I T Q x1 x2 x3) : ev E 327 13 [some (.ref 46), some (.ref x1), some (.int x2), some (.int x3), none] [] I T Q := by
  unfold t_M_putsAll_R_13 at hq
  refine ev_seq 2 (ip' := 15) (loc' := [some (.ref 46), some (.ref x1), some (.int x2), some (.int x3), none]) (st' := [(.int 29), (.int x3)]) (I1 := I) (T1 := T) rfl ?_
  refine ev_br (p := 29 ≤ x3) (a := 30) (b := 16) (st' := []) inferInstance rfl rfl (fun hb => ?_) (fun hb => ?_)
  · have hq := hq.1 hb
    refine ev_seq 2 (ip' := 32) (loc' := [some (.ref 46), some (.ref x1), some (.int x2), some (.int 0), none]) (st' := []) (I1 := I) (T1 := T) rfl ?_
    exact s_M_putsAll_R_32 (T := T) hK_x1 hq
  · have hq := hq.2 hb
    refine ev_seq 8 (ip' := 24) (loc' := [some (.ref 46), some (.ref x1), some (.int x2), some (.int x3), none]) (st' := [(.int x3), (.ref 508), (.ref x1), (.ref 46), (.int x3), (.ref 508)]) (I1 := I) (T1 := T) rfl ?_
    obtain ⟨hg, hq⟩ := hq
    refine ev_iald rfl rfl hg ?_
    refine ev_seq 1 (ip' := 26) (loc' := [some (.ref 46), some (.ref x1), some (.int x2), some (.int x3), none]) (st' := [(.int x2), (.int (I 508 x3.toNatClampNeg)), (.ref x1), (.ref 46), (.int x3), (.ref 508)]) (I1 := I) (T1 := T) rfl ?_
    refine ev_callI rfl rfl rfl (fun v1 I1 T1 hq => ?_) (fun x I1 T1 hq => ?_) hq
    · obtain ⟨hg, hq⟩ := hq
      refine ev_iast rfl rfl hg ?_
      refine ev_seq 2 (ip' := 13) (loc' := [some (.ref 46), some (.ref x1), some (.int x2), some (.int (x3 + 1)), none]) (st' := []) (I1 := m_up I1 508 x3.toNatClampNeg v1) (T1 := T1) rfl ?_
      exact hq
    · exact ⟨by decide, hq⟩
def t_M_putsAll_R_0 (E : MEnv) (I : II) (T : TT) (Q : QQ) (x1 : Nat) (x2 : Int32) : Prop := ev E 328 0 [some (.ref 46), some (.ref x1), some (.int ((m_up I 46 37 0) 46 34)), some (.int x2)] [] (m_up I 46 37 0) T (KI (fun v1 I1 T1 => t_M_putsAll_R_13 E (m_up I1 46 34 v1) T1 Q x1 x2 0) (fun x I1 T1 => Q (.inr x) I1 T1))
theorem s_M_putsAll_R_0 {E : MEnv} {I : II} {T : TT} {Q : QQ} {x1 : Nat} {x2 : Int32} (hK_x1 : m_K x1 = (1, 494)) (hq : t_M_putsAll_R_0 E I T Q x1 x2) : ev E 327 0 [some (.ref 46), some (.ref x1), some (.int x2), none, none] [] I T Q := by
  unfold t_M_putsAll_R_0 at hq
  refine ev_seq 9 (ip' := 9) (loc' := [some (.ref 46), some (.ref x1), some (.int x2), none, none]) (st' := [(.int x2), (.int ((m_up I 46 37 0) 46 34)), (.ref x1), (.ref 46), (.ref 46)]) (I1 := m_up I 46 37 0) (T1 := T) rfl ?_
  refine ev_callI rfl rfl rfl (fun v1 I1 T1 hq => ?_) (fun x I1 T1 hq => ?_) hq
  · refine ev_seq 3 (ip' := 13) (loc' := [some (.ref 46), some (.ref x1), some (.int x2), some (.int 0), none]) (st' := []) (I1 := m_up I1 46 34 v1) (T1 := T1) rfl ?_
    exact s_M_putsAll_R_13 (T := T1) hK_x1 hq
  · exact ⟨by decide, hq⟩
/-- FeltHarnessModel.puts([IIZ)I -/
def t_M_puts_R_7 (E : MEnv) (I : II) (T : TT) (Q : QQ) (x1 : Nat) : Prop := (¬ (((m_up I 46 37 ((I 46 37) + 1)) 46 37) - 1) < 0 ∧ (((m_up I 46 37 ((I 46 37) + 1)) 46 37) - 1).toNatClampNeg < 494) ∧ (Q (.inl (some (.int ((m_up I 46 37 ((I 46 37) + 1)) x1 (((m_up I 46 37 ((I 46 37) + 1)) 46 37) - 1).toNatClampNeg)))) (m_up I 46 37 ((I 46 37) + 1)) T)
theorem s_M_puts_R_7 {E : MEnv} {I : II} {T : TT} {Q : QQ} {x1 : Nat} (hK_x1 : m_K x1 = (1, 494)) (hq : t_M_puts_R_7 E I T Q x1) : ev E 328 7 [some (.ref 46), some (.ref x1), none, none] [] I T Q := by
  unfold t_M_puts_R_7 at hq
  refine ev_seq 11 (ip' := 18) (loc' := [some (.ref 46), some (.ref x1), none, none]) (st' := [(.int (((m_up I 46 37 ((I 46 37) + 1)) 46 37) - 1)), (.ref x1)]) (I1 := m_up I 46 37 ((I 46 37) + 1)) (T1 := T) rfl ?_
  obtain ⟨hg, hq⟩ := hq
  refine ev_iald rfl hK_x1 hg ?_
  exact ev_ret rfl rfl hq
def t_M_puts_R_0 (E : MEnv) (I : II) (T : TT) (Q : QQ) (x1 : Nat) (x2 : Int32) (x3 : Int32) : Prop := (x3 = 0 → ((¬ (I 46 37) < 0 ∧ (I 46 37).toNatClampNeg < 494) ∧ (t_M_puts_R_7 E (m_up I x1 (I 46 37).toNatClampNeg x2) T Q x1))) ∧ (¬ (x3 = 0) → (t_M_puts_R_7 E I T Q x1))
theorem s_M_puts_R_0 {E : MEnv} {I : II} {T : TT} {Q : QQ} {x1 : Nat} {x2 : Int32} {x3 : Int32} (hK_x1 : m_K x1 = (1, 494)) (hq : t_M_puts_R_0 E I T Q x1 x2 x3) : ev E 328 0 [some (.ref 46), some (.ref x1), some (.int x2), some (.int x3)] [] I T Q := by
  unfold t_M_puts_R_0 at hq
  refine ev_seq 1 (ip' := 1) (loc' := [some (.ref 46), some (.ref x1), some (.int x2), some (.int x3)]) (st' := [(.int x3)]) (I1 := I) (T1 := T) rfl ?_
  refine ev_br (p := x3 = 0) (a := 2) (b := 7) (st' := []) inferInstance rfl rfl (fun hb => ?_) (fun hb => ?_)
  · have hq := hq.1 hb
    refine ev_seq 4 (ip' := 6) (loc' := [some (.ref 46), some (.ref x1), some (.int x2), some (.int x3)]) (st' := [(.int x2), (.int (I 46 37)), (.ref x1)]) (I1 := I) (T1 := T) rfl ?_
    obtain ⟨hg, hq⟩ := hq
    refine ev_iast rfl hK_x1 hg ?_
    refine ev_fg [true, true, false, false] (loc' := [some (.ref 46), some (.ref x1), none, none]) rfl ?_
    exact s_M_puts_R_7 (T := T) hK_x1 hq
  · have hq := hq.2 hb
    refine ev_fg [true, true, false, false] (loc' := [some (.ref 46), some (.ref x1), none, none]) rfl ?_
    exact s_M_puts_R_7 (T := T) hK_x1 hq
/-- FeltHarnessModel.readsStep()V -/
def t_M_readsStep_112 (d9 : Nat) (X9 : Nat × (Nat → Int32)) (I : II) (T : TT) (Q : QQ) (x2 : Nat) : Prop := ev (d9 + 1, X9) 74 0 [some (.ref 46), some (.int 59)] [] (m_up I x2 3 (I 46 28)) T (KV (fun I1 T1 => Q (.inl none) I1 T1) (fun x I1 T1 => Q (.inr x) I1 T1))
theorem s_M_readsStep_112 {d9 : Nat} {X9 : Nat × (Nat → Int32)} {I : II} {T : TT} {Q : QQ} {x2 : Nat} (hK_x2 : m_K x2 = (1, 4)) (hq : t_M_readsStep_112 d9 X9 I T Q x2) : ev (d9 + 1, X9) 145 112 [some (.ref 46), none, some (.ref x2)] [] I T Q := by
  unfold t_M_readsStep_112 at hq
  refine ev_seq 4 (ip' := 116) (loc' := [some (.ref 46), none, some (.ref x2)]) (st' := [(.int (I 46 28)), (.int 3), (.ref x2)]) (I1 := I) (T1 := T) rfl ?_
  refine ev_iast rfl hK_x2 ⟨by decide, by decide⟩ ?_
  refine ev_seq 2 (ip' := 119) (loc' := [some (.ref 46), none, some (.ref x2)]) (st' := [(.int 59), (.ref 46)]) (I1 := m_up I x2 3 (I 46 28)) (T1 := T) rfl ?_
  refine ev_callV rfl rfl rfl (fun I1 T1 hq => ?_) (fun x I1 T1 hq => ?_) hq
  · exact ev_ret rfl rfl hq
  · exact ⟨by decide, hq⟩
def t_M_readsStep_103 (d9 : Nat) (X9 : Nat × (Nat → Int32)) (I : II) (T : TT) (Q : QQ) (x2 : Nat) : Prop := ev (d9 + 1, X9) 74 0 [some (.ref 46), some (.int 93)] [] I T (KV (fun I1 T1 => t_M_readsStep_112 d9 X9 (m_up I1 46 8 ((I1 46 8) - 1)) T1 Q x2) (fun x I1 T1 => Q (.inr x) I1 T1))
theorem s_M_readsStep_103 {d9 : Nat} {X9 : Nat × (Nat → Int32)} {I : II} {T : TT} {Q : QQ} {x2 : Nat} (hK_x2 : m_K x2 = (1, 4)) (hq : t_M_readsStep_103 d9 X9 I T Q x2) : ev (d9 + 1, X9) 145 103 [some (.ref 46), none, some (.ref x2)] [] I T Q := by
  unfold t_M_readsStep_103 at hq
  refine ev_seq 2 (ip' := 105) (loc' := [some (.ref 46), none, some (.ref x2)]) (st' := [(.int 93), (.ref 46)]) (I1 := I) (T1 := T) rfl ?_
  refine ev_callV rfl rfl rfl (fun I1 T1 hq => ?_) (fun x I1 T1 hq => ?_) hq
  · refine ev_seq 6 (ip' := 112) (loc' := [some (.ref 46), none, some (.ref x2)]) (st' := []) (I1 := m_up I1 46 8 ((I1 46 8) - 1)) (T1 := T1) rfl ?_
    exact s_M_readsStep_112 (T := T1) hK_x2 hq
  · exact ⟨by decide, hq⟩
def t_M_readsStep_89 (d9 : Nat) (X9 : Nat × (Nat → Int32)) (I : II) (T : TT) (Q : QQ) (x2 : Nat) : Prop := ((I 46 5) = 0 → (ev (d9 + 1, X9) 61 0 [some (.ref 46), some (.int (I 46 4))] [] I T (KI (fun v1 I1 T1 => (v1 = 93 → (t_M_readsStep_103 d9 X9 I1 T1 Q x2)) ∧ (¬ (v1 = 93) → (ev (d9, X9) 145 0 [some (.ref 46), none, none] [] I1 T1 (KV (fun I2 T2 => ev (d9 + 1, X9) 60 0 [some (.ref 46)] [] I2 T2 (KV (fun I3 T3 => ev (d9 + 1, X9) 145 89 [some (.ref 46), none, some (.ref x2)] [] I3 T3 Q) (fun x I1 T1 => Q (.inr x) I1 T1))) (fun x I1 T1 => Q (.inr x) I1 T1))))) (fun x I1 T1 => Q (.inr x) I1 T1)))) ∧ (¬ ((I 46 5) = 0) → (t_M_readsStep_103 d9 X9 I T Q x2))
theorem s_M_readsStep_89 {d9 : Nat} {X9 : Nat × (Nat → Int32)} {I : II} {T : TT} {Q : QQ} {x2 : Nat} (hK_x2 : m_K x2 = (1, 4)) (hq : t_M_readsStep_89 d9 X9 I T Q x2) : ev (d9 + 1, X9) 145 89 [some (.ref 46), none, some (.ref x2)] [] I T Q := by
  unfold t_M_readsStep_89 at hq
  refine ev_seq 2 (ip' := 91) (loc' := [some (.ref 46), none, some (.ref x2)]) (st' := [(.int (I 46 5))]) (I1 := I) (T1 := T) rfl ?_
  refine ev_br (p := (I 46 5) = 0) (a := 92) (b := 103) (st' := []) inferInstance rfl rfl (fun hb => ?_) (fun hb => ?_)
  · have hq := hq.1 hb
    refine ev_seq 3 (ip' := 95) (loc' := [some (.ref 46), none, some (.ref x2)]) (st' := [(.int (I 46 4)), (.ref 46)]) (I1 := I) (T1 := T) rfl ?_
    refine ev_callI rfl rfl rfl (fun v1 I1 T1 hq => ?_) (fun x I1 T1 hq => ?_) hq
    · refine ev_seq 1 (ip' := 97) (loc' := [some (.ref 46), none, some (.ref x2)]) (st' := [(.int 93), (.int v1)]) (I1 := I1) (T1 := T1) rfl ?_
      refine ev_br (p := v1 = 93) (a := 103) (b := 98) (st' := []) inferInstance rfl rfl (fun hb => ?_) (fun hb => ?_)
      · have hq := hq.1 hb
        exact s_M_readsStep_103 (T := T1) hK_x2 hq
      · have hq := hq.2 hb
        refine ev_seq 1 (ip' := 99) (loc' := [some (.ref 46), none, some (.ref x2)]) (st' := [(.ref 46)]) (I1 := I1) (T1 := T1) rfl ?_
        refine ev_callV rfl rfl rfl (fun I2 T2 hq => ?_) (fun x I1 T1 hq => ?_) hq
        · refine ev_seq 1 (ip' := 101) (loc' := [some (.ref 46), none, some (.ref x2)]) (st' := [(.ref 46)]) (I1 := I2) (T1 := T2) rfl ?_
          refine ev_callV rfl rfl rfl (fun I3 T3 hq => ?_) (fun x I1 T1 hq => ?_) hq
          · refine ev_seq 1 (ip' := 89) (loc' := [some (.ref 46), none, some (.ref x2)]) (st' := []) (I1 := I3) (T1 := T3) rfl ?_
            exact hq
          · exact ⟨by decide, hq⟩
        · exact ⟨by decide, hq⟩
    · exact ⟨by decide, hq⟩
  · have hq := hq.2 hb
    exact s_M_readsStep_103 (T := T) hK_x2 hq
def t_M_readsStep_74 (d9 : Nat) (X9 : Nat × (Nat → Int32)) (I : II) (T : TT) (Q : QQ) (x1 : Int32) (x2 : Nat) : Prop := (x1 = 6 → (ev (d9 + 1, X9) 71 0 [some (.ref 46), some (.int 0), some (.int 60), none, none] [] I T (KI (fun v1 I1 T1 => ev (d9 + 1, X9) 74 0 [some (.ref 46), some (.int 91)] [] (m_up I1 x2 1 v1) T1 (KV (fun I2 T2 => ev (d9 + 1, X9) 60 0 [some (.ref 46)] [] I2 T2 (KV (fun I3 T3 => t_M_readsStep_89 d9 X9 I3 T3 Q x2) (fun x I1 T1 => Q (.inr x) I1 T1))) (fun x I1 T1 => Q (.inr x) I1 T1))) (fun x I1 T1 => Q (.inr x) I1 T1)))) ∧ (¬ (x1 = 6) → (t_M_readsStep_112 d9 X9 I T Q x2))
theorem s_M_readsStep_74 {d9 : Nat} {X9 : Nat × (Nat → Int32)} {I : II} {T : TT} {Q : QQ} {x1 : Int32} {x2 : Nat} (hK_x2 : m_K x2 = (1, 4)) (hq : t_M_readsStep_74 d9 X9 I T Q x1 x2) : ev (d9 + 1, X9) 145 74 [some (.ref 46), some (.int x1), some (.ref x2)] [] I T Q := by
  unfold t_M_readsStep_74 at hq
  refine ev_seq 2 (ip' := 76) (loc' := [some (.ref 46), some (.int x1), some (.ref x2)]) (st' := [(.int 6), (.int x1)]) (I1 := I) (T1 := T) rfl ?_
  refine ev_br (p := x1 = 6) (a := 77) (b := 112) (st' := []) inferInstance rfl rfl (fun hb => ?_) (fun hb => ?_)
  · have hq := hq.1 hb
    refine ev_seq 5 (ip' := 82) (loc' := [some (.ref 46), some (.int x1), some (.ref x2)]) (st' := [(.int 60), (.int 0), (.ref 46), (.int 1), (.ref x2)]) (I1 := I) (T1 := T) rfl ?_
    refine ev_callI rfl rfl rfl (fun v1 I1 T1 hq => ?_) (fun x I1 T1 hq => ?_) hq
    · refine ev_iast rfl hK_x2 ⟨by decide, by decide⟩ ?_
      refine ev_seq 2 (ip' := 86) (loc' := [some (.ref 46), some (.int x1), some (.ref x2)]) (st' := [(.int 91), (.ref 46)]) (I1 := m_up I1 x2 1 v1) (T1 := T1) rfl ?_
      refine ev_callV rfl rfl rfl (fun I2 T2 hq => ?_) (fun x I1 T1 hq => ?_) hq
      · refine ev_seq 1 (ip' := 88) (loc' := [some (.ref 46), some (.int x1), some (.ref x2)]) (st' := [(.ref 46)]) (I1 := I2) (T1 := T2) rfl ?_
        refine ev_callV rfl rfl rfl (fun I3 T3 hq => ?_) (fun x I1 T1 hq => ?_) hq
        · refine ev_fg [true, false, true] (loc' := [some (.ref 46), none, some (.ref x2)]) rfl ?_
          exact s_M_readsStep_89 (T := T3) hK_x2 hq
        · exact ⟨by decide, hq⟩
      · exact ⟨by decide, hq⟩
    · exact ⟨by decide, hq⟩
  · have hq := hq.2 hb
    refine ev_fg [true, false, true] (loc' := [some (.ref 46), none, some (.ref x2)]) rfl ?_
    exact s_M_readsStep_112 (T := T) hK_x2 hq
def t_M_readsStep_64 (d9 : Nat) (X9 : Nat × (Nat → Int32)) (I : II) (T : TT) (Q : QQ) (x1 : Int32) (x2 : Nat) : Prop := (x1 = 2 → (ev (d9 + 1, X9) 71 0 [some (.ref 46), some (.int 0), some (.int 9), none, none] [] I T (KI (fun v1 I1 T1 => t_M_readsStep_74 d9 X9 (m_up I1 x2 2 v1) T1 Q x1 x2) (fun x I1 T1 => Q (.inr x) I1 T1)))) ∧ (¬ (x1 = 2) → (t_M_readsStep_74 d9 X9 I T Q x1 x2))
theorem s_M_readsStep_64 {d9 : Nat} {X9 : Nat × (Nat → Int32)} {I : II} {T : TT} {Q : QQ} {x1 : Int32} {x2 : Nat} (hK_x2 : m_K x2 = (1, 4)) (hq : t_M_readsStep_64 d9 X9 I T Q x1 x2) : ev (d9 + 1, X9) 145 64 [some (.ref 46), some (.int x1), some (.ref x2)] [] I T Q := by
  unfold t_M_readsStep_64 at hq
  refine ev_seq 2 (ip' := 66) (loc' := [some (.ref 46), some (.int x1), some (.ref x2)]) (st' := [(.int 2), (.int x1)]) (I1 := I) (T1 := T) rfl ?_
  refine ev_br (p := x1 = 2) (a := 67) (b := 74) (st' := []) inferInstance rfl rfl (fun hb => ?_) (fun hb => ?_)
  · have hq := hq.1 hb
    refine ev_seq 5 (ip' := 72) (loc' := [some (.ref 46), some (.int x1), some (.ref x2)]) (st' := [(.int 9), (.int 0), (.ref 46), (.int 2), (.ref x2)]) (I1 := I) (T1 := T) rfl ?_
    refine ev_callI rfl rfl rfl (fun v1 I1 T1 hq => ?_) (fun x I1 T1 hq => ?_) hq
    · refine ev_iast rfl hK_x2 ⟨by decide, by decide⟩ ?_
      exact s_M_readsStep_74 (T := T1) hK_x2 hq
    · exact ⟨by decide, hq⟩
  · have hq := hq.2 hb
    exact s_M_readsStep_74 (T := T) hK_x2 hq
def t_M_readsStep_55 (d9 : Nat) (X9 : Nat × (Nat → Int32)) (I : II) (T : TT) (Q : QQ) (x1 : Int32) (x2 : Nat) : Prop := (x1 = 0 → (ev (d9 + 1, X9) 71 0 [some (.ref 46), some (.int 0), some (.int 3), none, none] [] I T (KI (fun v1 I1 T1 => t_M_readsStep_64 d9 X9 (m_up I1 x2 2 v1) T1 Q x1 x2) (fun x I1 T1 => Q (.inr x) I1 T1)))) ∧ (¬ (x1 = 0) → (t_M_readsStep_64 d9 X9 I T Q x1 x2))
theorem s_M_readsStep_55 {d9 : Nat} {X9 : Nat × (Nat → Int32)} {I : II} {T : TT} {Q : QQ} {x1 : Int32} {x2 : Nat} (hK_x2 : m_K x2 = (1, 4)) (hq : t_M_readsStep_55 d9 X9 I T Q x1 x2) : ev (d9 + 1, X9) 145 55 [some (.ref 46), some (.int x1), some (.ref x2)] [] I T Q := by
  unfold t_M_readsStep_55 at hq
  refine ev_seq 1 (ip' := 56) (loc' := [some (.ref 46), some (.int x1), some (.ref x2)]) (st' := [(.int x1)]) (I1 := I) (T1 := T) rfl ?_
  refine ev_br (p := x1 = 0) (a := 57) (b := 64) (st' := []) inferInstance rfl rfl (fun hb => ?_) (fun hb => ?_)
  · have hq := hq.1 hb
    refine ev_seq 5 (ip' := 62) (loc' := [some (.ref 46), some (.int x1), some (.ref x2)]) (st' := [(.int 3), (.int 0), (.ref 46), (.int 2), (.ref x2)]) (I1 := I) (T1 := T) rfl ?_
    refine ev_callI rfl rfl rfl (fun v1 I1 T1 hq => ?_) (fun x I1 T1 hq => ?_) hq
    · refine ev_iast rfl hK_x2 ⟨by decide, by decide⟩ ?_
      exact s_M_readsStep_64 (T := T1) hK_x2 hq
    · exact ⟨by decide, hq⟩
  · have hq := hq.2 hb
    exact s_M_readsStep_64 (T := T) hK_x2 hq
def t_M_readsStep_18 (d9 : Nat) (X9 : Nat × (Nat → Int32)) (I : II) (T : TT) (Q : QQ) (x1 : Int32) : Prop := ((I 46 5) = 0 → (ev (d9 + 1, X9) 70 0 [some (.ref 46)] [] I T (KV (fun I1 T1 => (¬ (I1 46 28) < 0 ∧ (I1 46 28).toNatClampNeg < 80) ∧ ((3 ≤ x1 → (t_M_readsStep_55 d9 X9 (m_up (m_up I1 46 28 ((I1 46 28) + 1)) (428 + (I1 46 28).toNatClampNeg) 0 x1) T1 Q x1 (428 + (I1 46 28).toNatClampNeg))) ∧ (¬ (3 ≤ x1) → (ev (d9 + 1, X9) 71 0 [some (.ref 46), some (.int 0), some (.int (((m_up (m_up I1 46 28 ((I1 46 28) + 1)) (428 + (I1 46 28).toNatClampNeg) 0 x1) 50 0) - 1)), none, none] [] (m_up (m_up I1 46 28 ((I1 46 28) + 1)) (428 + (I1 46 28).toNatClampNeg) 0 x1) T1 (KI (fun v3 I3 T3 => t_M_readsStep_55 d9 X9 (m_up I3 (428 + (I1 46 28).toNatClampNeg) 1 v3) T3 Q x1 (428 + (I1 46 28).toNatClampNeg)) (fun x I1 T1 => Q (.inr x) I1 T1)))))) (fun x I1 T1 => Q (.inr x) I1 T1)))) ∧ (¬ ((I 46 5) = 0) → (Q (.inl none) I T))
theorem s_M_readsStep_18 {d9 : Nat} {X9 : Nat × (Nat → Int32)} {I : II} {T : TT} {Q : QQ} {x1 : Int32} (hq : t_M_readsStep_18 d9 X9 I T Q x1) : ev (d9 + 1, X9) 145 18 [some (.ref 46), some (.int x1), none] [] I T Q := by
  unfold t_M_readsStep_18 at hq
  refine ev_seq 2 (ip' := 20) (loc' := [some (.ref 46), some (.int x1), none]) (st' := [(.int (I 46 5))]) (I1 := I) (T1 := T) rfl ?_
  refine ev_br (p := (I 46 5) = 0) (a := 22) (b := 21) (st' := []) inferInstance rfl rfl (fun hb => ?_) (fun hb => ?_)
  · have hq := hq.1 hb
    refine ev_seq 1 (ip' := 23) (loc' := [some (.ref 46), some (.int x1), none]) (st' := [(.ref 46)]) (I1 := I) (T1 := T) rfl ?_
    refine ev_callV rfl rfl rfl (fun I1 T1 hq => ?_) (fun x I1 T1 hq => ?_) hq
    · refine ev_seq 4 (ip' := 28) (loc' := [some (.ref 46), some (.int x1), none]) (st' := [(.int (I1 46 28)), (.ref 427)]) (I1 := I1) (T1 := T1) rfl ?_
      obtain ⟨hg, hq⟩ := hq
      have hr2 := hg
      refine ev_aald rfl rfl hg (RF_427 hg.2) ?_
      refine ev_seq 10 (ip' := 39) (loc' := [some (.ref 46), some (.int x1), some (.ref (428 + (I1 46 28).toNatClampNeg))]) (st' := [(.int x1), (.int 0), (.ref (428 + (I1 46 28).toNatClampNeg))]) (I1 := m_up I1 46 28 ((I1 46 28) + 1)) (T1 := T1) rfl ?_
      refine ev_iast rfl (KF_427 hr2.2) ⟨by decide, by decide⟩ ?_
      refine ev_seq 2 (ip' := 42) (loc' := [some (.ref 46), some (.int x1), some (.ref (428 + (I1 46 28).toNatClampNeg))]) (st' := [(.int 3), (.int x1)]) (I1 := m_up (m_up I1 46 28 ((I1 46 28) + 1)) (428 + (I1 46 28).toNatClampNeg) 0 x1) (T1 := T1) rfl ?_
      refine ev_br (p := 3 ≤ x1) (a := 55) (b := 43) (st' := []) inferInstance rfl rfl (fun hb => ?_) (fun hb => ?_)
      · have hq := hq.1 hb
        exact s_M_readsStep_55 (T := T1) (KF_427 hr2.2) hq
      · have hq := hq.2 hb
        refine ev_seq 10 (ip' := 53) (loc' := [some (.ref 46), some (.int x1), some (.ref (428 + (I1 46 28).toNatClampNeg))]) (st' := [(.int (((m_up (m_up I1 46 28 ((I1 46 28) + 1)) (428 + (I1 46 28).toNatClampNeg) 0 x1) 50 0) - 1)), (.int 0), (.ref 46), (.int 1), (.ref (428 + (I1 46 28).toNatClampNeg))]) (I1 := m_up (m_up I1 46 28 ((I1 46 28) + 1)) (428 + (I1 46 28).toNatClampNeg) 0 x1) (T1 := T1) rfl ?_
        refine ev_callI rfl rfl rfl (fun v3 I3 T3 hq => ?_) (fun x I1 T1 hq => ?_) hq
        · refine ev_iast rfl (KF_427 hr2.2) ⟨by decide, by decide⟩ ?_
          exact s_M_readsStep_55 (T := T3) (KF_427 hr2.2) hq
        · exact ⟨by decide, hq⟩
    · exact ⟨by decide, hq⟩
  · have hq := hq.2 hb
    exact ev_ret rfl rfl hq
def t_M_readsStep_11 (d9 : Nat) (X9 : Nat × (Nat → Int32)) (I : II) (T : TT) (Q : QQ) (x1 : Int32) : Prop := (x1 = 6 → (ev (d9 + 1, X9) 89 0 [some (.ref 46)] [] I T (KI (fun v1 I1 T1 => (v1 = 0 → (Q (.inl none) I1 T1)) ∧ (¬ (v1 = 0) → (t_M_readsStep_18 d9 X9 I1 T1 Q x1))) (fun x I1 T1 => Q (.inr x) I1 T1)))) ∧ (¬ (x1 = 6) → (t_M_readsStep_18 d9 X9 I T Q x1))
theorem s_M_readsStep_11 {d9 : Nat} {X9 : Nat × (Nat → Int32)} {I : II} {T : TT} {Q : QQ} {x1 : Int32} (hq : t_M_readsStep_11 d9 X9 I T Q x1) : ev (d9 + 1, X9) 145 11 [some (.ref 46), some (.int x1), none] [] I T Q := by
  unfold t_M_readsStep_11 at hq
  refine ev_seq 2 (ip' := 13) (loc' := [some (.ref 46), some (.int x1), none]) (st' := [(.int 6), (.int x1)]) (I1 := I) (T1 := T) rfl ?_
  refine ev_br (p := x1 = 6) (a := 14) (b := 18) (st' := []) inferInstance rfl rfl (fun hb => ?_) (fun hb => ?_)
  · have hq := hq.1 hb
    refine ev_seq 1 (ip' := 15) (loc' := [some (.ref 46), some (.int x1), none]) (st' := [(.ref 46)]) (I1 := I) (T1 := T) rfl ?_
    refine ev_callI rfl rfl rfl (fun v1 I1 T1 hq => ?_) (fun x I1 T1 hq => ?_) hq
    · refine ev_br (p := v1 = 0) (a := 17) (b := 18) (st' := []) inferInstance rfl rfl (fun hb => ?_) (fun hb => ?_)
      · have hq := hq.1 hb
        exact ev_ret rfl rfl hq
      · have hq := hq.2 hb
        exact s_M_readsStep_18 (T := T1) hq
    · exact ⟨by decide, hq⟩
  · have hq := hq.2 hb
    exact s_M_readsStep_18 (T := T) hq
def t_M_readsStep_0 (d9 : Nat) (X9 : Nat × (Nat → Int32)) (I : II) (T : TT) (Q : QQ) : Prop := ev (d9 + 1, X9) 146 0 [some (.ref 46)] [] I T (KI (fun v1 I1 T1 => (v1 = (-1) → (ev (d9 + 1, X9) 69 0 [some (.ref 46), some (.int 1), some (.int (I1 46 4))] [] I1 T1 (KV (fun I2 T2 => t_M_readsStep_11 d9 X9 I2 T2 Q v1) (fun x I1 T1 => Q (.inr x) I1 T1)))) ∧ (¬ (v1 = (-1)) → (t_M_readsStep_11 d9 X9 I1 T1 Q v1))) (fun x I1 T1 => Q (.inr x) I1 T1))
theorem s_M_readsStep_0 {d9 : Nat} {X9 : Nat × (Nat → Int32)} {I : II} {T : TT} {Q : QQ} (hq : t_M_readsStep_0 d9 X9 I T Q) : ev (d9 + 1, X9) 145 0 [some (.ref 46), none, none] [] I T Q := by
  unfold t_M_readsStep_0 at hq
  refine ev_seq 1 (ip' := 1) (loc' := [some (.ref 46), none, none]) (st' := [(.ref 46)]) (I1 := I) (T1 := T) rfl ?_
  refine ev_callI rfl rfl rfl (fun v1 I1 T1 hq => ?_) (fun x I1 T1 hq => ?_) hq
  · refine ev_seq 3 (ip' := 5) (loc' := [some (.ref 46), some (.int v1), none]) (st' := [(.int (-1)), (.int v1)]) (I1 := I1) (T1 := T1) rfl ?_
    refine ev_br (p := v1 = (-1)) (a := 6) (b := 11) (st' := []) inferInstance rfl rfl (fun hb => ?_) (fun hb => ?_)
    · have hq := hq.1 hb
      refine ev_seq 4 (ip' := 10) (loc' := [some (.ref 46), some (.int v1), none]) (st' := [(.int (I1 46 4)), (.int 1), (.ref 46)]) (I1 := I1) (T1 := T1) rfl ?_
      refine ev_callV rfl rfl rfl (fun I2 T2 hq => ?_) (fun x I1 T1 hq => ?_) hq
      · exact s_M_readsStep_11 (T := T2) hq
      · exact ⟨by decide, hq⟩
    · have hq := hq.2 hb
      exact s_M_readsStep_11 (T := T1) hq
  · exact ⟨by decide, hq⟩
/-- FeltHarnessModel.rested(II)I -/
def t_M_rested_37 (E : MEnv) (I : II) (T : TT) (Q : QQ) (x1 : Int32) (x2 : Int32) (x3 : Int32) : Prop := (x2 ≤ x3 → ((¬ (16 + x1) < 0 ∧ (16 + x1).toNatClampNeg < 29) ∧ (Q (.inl (some (.int (I 509 (16 + x1).toNatClampNeg)))) I T))) ∧ (¬ (x2 ≤ x3) → (ev E 168 0 [some (.ref 46), some (.ref 509), none] [] I T (KV (fun I1 T1 => ev E 298 37 [some (.ref 46), some (.int x1), some (.int x2), some (.int (x3 + 1))] [] I1 T1 Q) (fun x I1 T1 => Q (.inr x) I1 T1))))
theorem s_M_rested_37 {E : MEnv} {I : II} {T : TT} {Q : QQ} {x1 : Int32} {x2 : Int32} {x3 : Int32} (hq : t_M_rested_37 E I T Q x1 x2 x3) : ev E 298 37 [some (.ref 46), some (.int x1), some (.int x2), some (.int x3)] [] I T Q := by
  unfold t_M_rested_37 at hq
  refine ev_seq 2 (ip' := 39) (loc' := [some (.ref 46), some (.int x1), some (.int x2), some (.int x3)]) (st' := [(.int x2), (.int x3)]) (I1 := I) (T1 := T) rfl ?_
  refine ev_br (p := x2 ≤ x3) (a := 46) (b := 40) (st' := []) inferInstance rfl rfl (fun hb => ?_) (fun hb => ?_)
  · have hq := hq.1 hb
    refine ev_seq 5 (ip' := 51) (loc' := [some (.ref 46), some (.int x1), some (.int x2), some (.int x3)]) (st' := [(.int (16 + x1)), (.ref 509)]) (I1 := I) (T1 := T) rfl ?_
    obtain ⟨hg, hq⟩ := hq
    refine ev_iald rfl rfl hg ?_
    exact ev_ret rfl rfl hq
  · have hq := hq.2 hb
    refine ev_seq 3 (ip' := 43) (loc' := [some (.ref 46), some (.int x1), some (.int x2), some (.int x3)]) (st' := [(.ref 509), (.ref 46)]) (I1 := I) (T1 := T) rfl ?_
    refine ev_callV rfl rfl rfl (fun I1 T1 hq => ?_) (fun x I1 T1 hq => ?_) hq
    · refine ev_seq 2 (ip' := 37) (loc' := [some (.ref 46), some (.int x1), some (.int x2), some (.int (x3 + 1))]) (st' := []) (I1 := I1) (T1 := T1) rfl ?_
      exact hq
    · exact ⟨by decide, hq⟩
def t_M_rested_28 (E : MEnv) (I : II) (T : TT) (Q : QQ) : Prop := Q (.inl (some (.int 0))) I T
theorem s_M_rested_28 {E : MEnv} {I : II} {T : TT} {Q : QQ} (hq : t_M_rested_28 E I T Q) : ev E 298 28 [none, none, none, none] [] I T Q := by
  unfold t_M_rested_28 at hq
  refine ev_seq 1 (ip' := 29) (loc' := [none, none, none, none]) (st' := [(.int 0)]) (I1 := I) (T1 := T) rfl ?_
  exact ev_ret rfl rfl hq
def t_M_rested_24 (E : MEnv) (I : II) (T : TT) (Q : QQ) (x1 : Int32) (x2 : Int32) (y1 : Int32) : Prop := ev E 58 0 [some (.ref 46), some (.int y1), some (.int 2), some (.int 1)] [] I T (KI (fun v1 I1 T1 => (v1 = 0 → (ev E 147 0 [some (.ref 508), some (.ref 509), none] [] I1 T1 (KV (fun I2 T2 => t_M_rested_37 E I2 T2 Q x1 x2 0) (fun _ _ _ => False)))) ∧ (¬ (v1 = 0) → (t_M_rested_28 E I1 T1 Q ))) (fun x I1 T1 => Q (.inr x) I1 T1))
theorem s_M_rested_24 {E : MEnv} {I : II} {T : TT} {Q : QQ} {x1 : Int32} {x2 : Int32} {y1 : Int32} (hq : t_M_rested_24 E I T Q x1 x2 y1) : ev E 298 24 [some (.ref 46), some (.int x1), some (.int x2), none] [(.int y1), (.ref 46)] I T Q := by
  unfold t_M_rested_24 at hq
  refine ev_seq 2 (ip' := 26) (loc' := [some (.ref 46), some (.int x1), some (.int x2), none]) (st' := [(.int 1), (.int 2), (.int y1), (.ref 46)]) (I1 := I) (T1 := T) rfl ?_
  refine ev_callI rfl rfl rfl (fun v1 I1 T1 hq => ?_) (fun x I1 T1 hq => ?_) hq
  · refine ev_br (p := v1 = 0) (a := 30) (b := 28) (st' := []) inferInstance rfl rfl (fun hb => ?_) (fun hb => ?_)
    · have hq := hq.1 hb
      refine ev_seq 4 (ip' := 34) (loc' := [some (.ref 46), some (.int x1), some (.int x2), none]) (st' := [(.ref 509), (.ref 508)]) (I1 := I1) (T1 := T1) rfl ?_
      refine ev_callV rfl rfl rfl (fun I2 T2 hq => ?_) (fun x I1 T1 hq => ?_) hq
      · refine ev_seq 2 (ip' := 37) (loc' := [some (.ref 46), some (.int x1), some (.int x2), some (.int 0)]) (st' := []) (I1 := I2) (T1 := T2) rfl ?_
        exact s_M_rested_37 (T := T2) hq
      · exact hq.elim
    · have hq := hq.2 hb
      refine ev_fg [false, false, false, true] (loc' := [none, none, none, none]) rfl ?_
      exact s_M_rested_28 (T := T1) hq
  · exact ⟨by decide, hq⟩
def t_M_rested_11 (E : MEnv) (I : II) (T : TT) (Q : QQ) (x1 : Int32) (x2 : Int32) (y1 : Int32) : Prop := ev E 58 0 [some (.ref 46), some (.int y1), some (.int 1), some (.int 0)] [] I T (KI (fun v1 I1 T1 => (v1 = 0 → (ev E 57 0 [some (.int x2), some (.int 0), some (.int 99)] [] I1 T1 (KI (fun v2 I2 T2 => (v2 = 0 → (t_M_rested_24 E I2 T2 Q x1 x2 1)) ∧ (¬ (v2 = 0) → (t_M_rested_24 E I2 T2 Q x1 x2 0))) (fun _ _ _ => False)))) ∧ (¬ (v1 = 0) → (t_M_rested_28 E I1 T1 Q ))) (fun x I1 T1 => Q (.inr x) I1 T1))
theorem s_M_rested_11 {E : MEnv} {I : II} {T : TT} {Q : QQ} {x1 : Int32} {x2 : Int32} {y1 : Int32} (hq : t_M_rested_11 E I T Q x1 x2 y1) : ev E 298 11 [some (.ref 46), some (.int x1), some (.int x2), none] [(.int y1), (.ref 46)] I T Q := by
  unfold t_M_rested_11 at hq
  refine ev_seq 2 (ip' := 13) (loc' := [some (.ref 46), some (.int x1), some (.int x2), none]) (st' := [(.int 0), (.int 1), (.int y1), (.ref 46)]) (I1 := I) (T1 := T) rfl ?_
  refine ev_callI rfl rfl rfl (fun v1 I1 T1 hq => ?_) (fun x I1 T1 hq => ?_) hq
  · refine ev_br (p := v1 = 0) (a := 15) (b := 28) (st' := []) inferInstance rfl rfl (fun hb => ?_) (fun hb => ?_)
    · have hq := hq.1 hb
      refine ev_seq 4 (ip' := 19) (loc' := [some (.ref 46), some (.int x1), some (.int x2), none]) (st' := [(.int 99), (.int 0), (.int x2), (.ref 46)]) (I1 := I1) (T1 := T1) rfl ?_
      refine ev_callI rfl rfl rfl (fun v2 I2 T2 hq => ?_) (fun x I1 T1 hq => ?_) hq
      · refine ev_br (p := v2 = 0) (a := 21) (b := 23) (st' := [(.ref 46)]) inferInstance rfl rfl (fun hb => ?_) (fun hb => ?_)
        · have hq := hq.1 hb
          refine ev_seq 2 (ip' := 24) (loc' := [some (.ref 46), some (.int x1), some (.int x2), none]) (st' := [(.int 1), (.ref 46)]) (I1 := I2) (T1 := T2) rfl ?_
          exact s_M_rested_24 (T := T2) hq
        · have hq := hq.2 hb
          refine ev_seq 1 (ip' := 24) (loc' := [some (.ref 46), some (.int x1), some (.int x2), none]) (st' := [(.int 0), (.ref 46)]) (I1 := I2) (T1 := T2) rfl ?_
          exact s_M_rested_24 (T := T2) hq
      · exact hq.elim
    · have hq := hq.2 hb
      refine ev_fg [false, false, false, true] (loc' := [none, none, none, none]) rfl ?_
      exact s_M_rested_28 (T := T1) hq
  · exact ⟨by decide, hq⟩
def t_M_rested_0 (E : MEnv) (I : II) (T : TT) (Q : QQ) (x1 : Int32) (x2 : Int32) : Prop := ev E 190 0 [some (.ref 46), some (.int x1)] [] (m_up I 46 0 0) T (KI (fun v1 I1 T1 => (v1 = 0 → (t_M_rested_11 E I1 T1 Q x1 x2 1)) ∧ (¬ (v1 = 0) → (t_M_rested_11 E I1 T1 Q x1 x2 0))) (fun x I1 T1 => Q (.inr x) I1 T1))
theorem s_M_rested_0 {E : MEnv} {I : II} {T : TT} {Q : QQ} {x1 : Int32} {x2 : Int32} (hq : t_M_rested_0 E I T Q x1 x2) : ev E 298 0 [some (.ref 46), some (.int x1), some (.int x2), none] [] I T Q := by
  unfold t_M_rested_0 at hq
  refine ev_seq 6 (ip' := 6) (loc' := [some (.ref 46), some (.int x1), some (.int x2), none]) (st' := [(.int x1), (.ref 46), (.ref 46)]) (I1 := m_up I 46 0 0) (T1 := T) rfl ?_
  refine ev_callI rfl rfl rfl (fun v1 I1 T1 hq => ?_) (fun x I1 T1 hq => ?_) hq
  · refine ev_br (p := v1 = 0) (a := 8) (b := 10) (st' := [(.ref 46)]) inferInstance rfl rfl (fun hb => ?_) (fun hb => ?_)
    · have hq := hq.1 hb
      refine ev_seq 2 (ip' := 11) (loc' := [some (.ref 46), some (.int x1), some (.int x2), none]) (st' := [(.int 1), (.ref 46)]) (I1 := I1) (T1 := T1) rfl ?_
      exact s_M_rested_11 (T := T1) hq
    · have hq := hq.2 hb
      refine ev_seq 1 (ip' := 11) (loc' := [some (.ref 46), some (.int x1), some (.int x2), none]) (st' := [(.int 0), (.ref 46)]) (I1 := I1) (T1 := T1) rfl ?_
      exact s_M_rested_11 (T := T1) hq
  · exact ⟨by decide, hq⟩
/-- FeltHarnessModel.restore()I -/
def t_M_restore_0 (E : MEnv) (I : II) (T : TT) (Q : QQ) : Prop := (((m_up I 46 0 0) 46 36) = 0 → (Q (.inl (some (.int (-1)))) (m_up I 46 0 0) T)) ∧ (¬ (((m_up I 46 0 0) 46 36) = 0) → ((¬ ((m_up (m_up I 46 0 0) 46 36 (((m_up I 46 0 0) 46 36) - 1)) 46 36) < 0 ∧ ((m_up (m_up I 46 0 0) 46 36 (((m_up I 46 0 0) 46 36) - 1)) 46 36).toNatClampNeg < 3) ∧ (ev E 327 0 [some (.ref 46), some (.ref (528 + ((m_up (m_up I 46 0 0) 46 36 (((m_up I 46 0 0) 46 36) - 1)) 46 36).toNatClampNeg)), some (.int 1), none, none] [] (m_up (m_up I 46 0 0) 46 36 (((m_up I 46 0 0) 46 36) - 1)) T (KV (fun I2 T2 => Q (.inl (some (.int ((m_up I2 46 35 0) 46 36)))) (m_up I2 46 35 0) T2) (fun x I1 T1 => Q (.inr x) I1 T1)))))
theorem s_M_restore_0 {E : MEnv} {I : II} {T : TT} {Q : QQ} (hq : t_M_restore_0 E I T Q) : ev E 331 0 [some (.ref 46)] [] I T Q := by
  unfold t_M_restore_0 at hq
  refine ev_seq 5 (ip' := 5) (loc' := [some (.ref 46)]) (st' := [(.int ((m_up I 46 0 0) 46 36))]) (I1 := m_up I 46 0 0) (T1 := T) rfl ?_
  refine ev_br (p := ((m_up I 46 0 0) 46 36) = 0) (a := 6) (b := 8) (st' := []) inferInstance rfl rfl (fun hb => ?_) (fun hb => ?_)
  · have hq := hq.1 hb
    refine ev_seq 1 (ip' := 7) (loc' := [some (.ref 46)]) (st' := [(.int (-1))]) (I1 := m_up I 46 0 0) (T1 := T) rfl ?_
    exact ev_ret rfl rfl hq
  · have hq := hq.2 hb
    refine ev_seq 11 (ip' := 19) (loc' := [some (.ref 46)]) (st' := [(.int ((m_up (m_up I 46 0 0) 46 36 (((m_up I 46 0 0) 46 36) - 1)) 46 36)), (.ref 527), (.ref 46)]) (I1 := m_up (m_up I 46 0 0) 46 36 (((m_up I 46 0 0) 46 36) - 1)) (T1 := T) rfl ?_
    obtain ⟨hg, hq⟩ := hq
    have hr1 := hg
    refine ev_aald rfl rfl hg (RF_527 hg.2) ?_
    refine ev_seq 1 (ip' := 21) (loc' := [some (.ref 46)]) (st' := [(.int 1), (.ref (528 + ((m_up (m_up I 46 0 0) 46 36 (((m_up I 46 0 0) 46 36) - 1)) 46 36).toNatClampNeg)), (.ref 46)]) (I1 := m_up (m_up I 46 0 0) 46 36 (((m_up I 46 0 0) 46 36) - 1)) (T1 := T) rfl ?_
    refine ev_callV rfl rfl rfl (fun I2 T2 hq => ?_) (fun x I1 T1 hq => ?_) hq
    · refine ev_seq 5 (ip' := 27) (loc' := [some (.ref 46)]) (st' := [(.int ((m_up I2 46 35 0) 46 36))]) (I1 := m_up I2 46 35 0) (T1 := T2) rfl ?_
      exact ev_ret rfl rfl hq
    · exact ⟨by decide, hq⟩
/-- FeltHarnessModel.rests([I)V -/
def t_M_rests_508_35 (E : MEnv) (I : II) (T : TT) (Q : QQ) (x2 : Int32) (y1 : Int32) (y2 : Int32) (y3 : Int32) (y4 : Int32) : Prop := ev E 163 0 [some (.int y2), some (.int (y3 - y4))] [] I T (KI (fun v1 I1 T1 => (¬ y1 < 0 ∧ y1.toNatClampNeg < 29) ∧ (ev E 168 2 [some (.ref 46), some (.ref 508), some (.int (x2 + 1))] [] (m_up I1 508 y1.toNatClampNeg v1) T1 Q)) (fun _ _ _ => False))
theorem s_M_rests_508_35 {E : MEnv} {I : II} {T : TT} {Q : QQ} {x2 : Int32} {y1 : Int32} {y2 : Int32} {y3 : Int32} {y4 : Int32} (hq : t_M_rests_508_35 E I T Q x2 y1 y2 y3 y4) : ev E 168 35 [some (.ref 46), some (.ref 508), some (.int x2)] [(.int y4), (.int y3), (.int y2), (.int y1), (.ref 508)] I T Q := by
  unfold t_M_rests_508_35 at hq
  refine ev_seq 1 (ip' := 36) (loc' := [some (.ref 46), some (.ref 508), some (.int x2)]) (st' := [(.int (y3 - y4)), (.int y2), (.int y1), (.ref 508)]) (I1 := I) (T1 := T) rfl ?_
  refine ev_callI rfl rfl rfl (fun v1 I1 T1 hq => ?_) (fun x I1 T1 hq => ?_) hq
  · obtain ⟨hg, hq⟩ := hq
    refine ev_iast rfl rfl hg ?_
    refine ev_seq 2 (ip' := 2) (loc' := [some (.ref 46), some (.ref 508), some (.int (x2 + 1))]) (st' := []) (I1 := m_up I1 508 y1.toNatClampNeg v1) (T1 := T1) rfl ?_
    exact hq
  · exact hq.elim
def t_M_rests_508_2 (E : MEnv) (I : II) (T : TT) (Q : QQ) (x2 : Int32) : Prop := ((I 50 0) ≤ x2 → (Q (.inl none) (m_up I 508 24 ((I 508 24) + 1)) T)) ∧ (¬ ((I 50 0) ≤ x2) → ((¬ (16 + x2) < 0 ∧ (16 + x2).toNatClampNeg < 29) ∧ ((¬ (0 + x2) < 0 ∧ (0 + x2).toNatClampNeg < 29) ∧ (((I 508 (0 + x2).toNatClampNeg) = (-1) → ((¬ x2 < 0 ∧ x2.toNatClampNeg < 8) ∧ (t_M_rests_508_35 E I T Q x2 (16 + x2) 0 (I 508 (16 + x2).toNatClampNeg) (3 + (I (61 + x2.toNatClampNeg) 1))))) ∧ (¬ ((I 508 (0 + x2).toNatClampNeg) = (-1)) → (t_M_rests_508_35 E I T Q x2 (16 + x2) 0 (I 508 (16 + x2).toNatClampNeg) 1))))))
theorem s_M_rests_508_2 {E : MEnv} {I : II} {T : TT} {Q : QQ} {x2 : Int32} (hq : t_M_rests_508_2 E I T Q x2) : ev E 168 2 [some (.ref 46), some (.ref 508), some (.int x2)] [] I T Q := by
  unfold t_M_rests_508_2 at hq
  refine ev_seq 5 (ip' := 7) (loc' := [some (.ref 46), some (.ref 508), some (.int x2)]) (st' := [(.int (I 50 0)), (.int x2)]) (I1 := I) (T1 := T) rfl ?_
  refine ev_br (p := (I 50 0) ≤ x2) (a := 40) (b := 8) (st' := []) inferInstance rfl rfl (fun hb => ?_) (fun hb => ?_)
  · have hq := hq.1 hb
    refine ev_seq 7 (ip' := 47) (loc' := [some (.ref 46), some (.ref 508), some (.int x2)]) (st' := []) (I1 := m_up I 508 24 ((I 508 24) + 1)) (T1 := T) rfl ?_
    exact ev_ret rfl rfl hq
  · have hq := hq.2 hb
    refine ev_seq 9 (ip' := 17) (loc' := [some (.ref 46), some (.ref 508), some (.int x2)]) (st' := [(.int (16 + x2)), (.ref 508), (.int 0), (.int (16 + x2)), (.ref 508)]) (I1 := I) (T1 := T) rfl ?_
    obtain ⟨hg, hq⟩ := hq
    refine ev_iald rfl rfl hg ?_
    refine ev_seq 4 (ip' := 22) (loc' := [some (.ref 46), some (.ref 508), some (.int x2)]) (st' := [(.int (0 + x2)), (.ref 508), (.int (I 508 (16 + x2).toNatClampNeg)), (.int 0), (.int (16 + x2)), (.ref 508)]) (I1 := I) (T1 := T) rfl ?_
    obtain ⟨hg, hq⟩ := hq
    refine ev_iald rfl rfl hg ?_
    refine ev_seq 1 (ip' := 24) (loc' := [some (.ref 46), some (.ref 508), some (.int x2)]) (st' := [(.int (-1)), (.int (I 508 (0 + x2).toNatClampNeg)), (.int (I 508 (16 + x2).toNatClampNeg)), (.int 0), (.int (16 + x2)), (.ref 508)]) (I1 := I) (T1 := T) rfl ?_
    refine ev_br (p := (I 508 (0 + x2).toNatClampNeg) = (-1)) (a := 25) (b := 34) (st' := [(.int (I 508 (16 + x2).toNatClampNeg)), (.int 0), (.int (16 + x2)), (.ref 508)]) inferInstance rfl rfl (fun hb => ?_) (fun hb => ?_)
    · have hq := hq.1 hb
      refine ev_seq 4 (ip' := 29) (loc' := [some (.ref 46), some (.ref 508), some (.int x2)]) (st' := [(.int x2), (.ref 60), (.int 3), (.int (I 508 (16 + x2).toNatClampNeg)), (.int 0), (.int (16 + x2)), (.ref 508)]) (I1 := I) (T1 := T) rfl ?_
      obtain ⟨hg, hq⟩ := hq
      have hr1 := hg
      refine ev_aald rfl rfl hg (RF_60 hg.2) ?_
      refine ev_seq 1 (ip' := 31) (loc' := [some (.ref 46), some (.ref 508), some (.int x2)]) (st' := [(.int 1), (.ref (61 + x2.toNatClampNeg)), (.int 3), (.int (I 508 (16 + x2).toNatClampNeg)), (.int 0), (.int (16 + x2)), (.ref 508)]) (I1 := I) (T1 := T) rfl ?_
      refine ev_iald rfl (KF_60 hr1.2) ⟨by decide, by decide⟩ ?_
      refine ev_seq 2 (ip' := 35) (loc' := [some (.ref 46), some (.ref 508), some (.int x2)]) (st' := [(.int (3 + (I (61 + x2.toNatClampNeg) 1))), (.int (I 508 (16 + x2).toNatClampNeg)), (.int 0), (.int (16 + x2)), (.ref 508)]) (I1 := I) (T1 := T) rfl ?_
      exact s_M_rests_508_35 (T := T) hq
    · have hq := hq.2 hb
      refine ev_seq 1 (ip' := 35) (loc' := [some (.ref 46), some (.ref 508), some (.int x2)]) (st' := [(.int 1), (.int (I 508 (16 + x2).toNatClampNeg)), (.int 0), (.int (16 + x2)), (.ref 508)]) (I1 := I) (T1 := T) rfl ?_
      exact s_M_rests_508_35 (T := T) hq
def t_M_rests_508_0 (E : MEnv) (I : II) (T : TT) (Q : QQ) : Prop := t_M_rests_508_2 E I T Q 0
theorem s_M_rests_508_0 {E : MEnv} {I : II} {T : TT} {Q : QQ} (hq : t_M_rests_508_0 E I T Q) : ev E 168 0 [some (.ref 46), some (.ref 508), none] [] I T Q := by
  unfold t_M_rests_508_0 at hq
  refine ev_seq 2 (ip' := 2) (loc' := [some (.ref 46), some (.ref 508), some (.int 0)]) (st' := []) (I1 := I) (T1 := T) rfl ?_
  exact s_M_rests_508_2 (T := T) hq
/-- FeltHarnessModel.rests([I)V -/
def t_M_rests_509_35 (E : MEnv) (I : II) (T : TT) (Q : QQ) (x2 : Int32) (y1 : Int32) (y2 : Int32) (y3 : Int32) (y4 : Int32) : Prop := ev E 163 0 [some (.int y2), some (.int (y3 - y4))] [] I T (KI (fun v1 I1 T1 => (¬ y1 < 0 ∧ y1.toNatClampNeg < 29) ∧ (ev E 168 2 [some (.ref 46), some (.ref 509), some (.int (x2 + 1))] [] (m_up I1 509 y1.toNatClampNeg v1) T1 Q)) (fun _ _ _ => False))
theorem s_M_rests_509_35 {E : MEnv} {I : II} {T : TT} {Q : QQ} {x2 : Int32} {y1 : Int32} {y2 : Int32} {y3 : Int32} {y4 : Int32} (hq : t_M_rests_509_35 E I T Q x2 y1 y2 y3 y4) : ev E 168 35 [some (.ref 46), some (.ref 509), some (.int x2)] [(.int y4), (.int y3), (.int y2), (.int y1), (.ref 509)] I T Q := by
  unfold t_M_rests_509_35 at hq
  refine ev_seq 1 (ip' := 36) (loc' := [some (.ref 46), some (.ref 509), some (.int x2)]) (st' := [(.int (y3 - y4)), (.int y2), (.int y1), (.ref 509)]) (I1 := I) (T1 := T) rfl ?_
  refine ev_callI rfl rfl rfl (fun v1 I1 T1 hq => ?_) (fun x I1 T1 hq => ?_) hq
  · obtain ⟨hg, hq⟩ := hq
    refine ev_iast rfl rfl hg ?_
    refine ev_seq 2 (ip' := 2) (loc' := [some (.ref 46), some (.ref 509), some (.int (x2 + 1))]) (st' := []) (I1 := m_up I1 509 y1.toNatClampNeg v1) (T1 := T1) rfl ?_
    exact hq
  · exact hq.elim
def t_M_rests_509_2 (E : MEnv) (I : II) (T : TT) (Q : QQ) (x2 : Int32) : Prop := ((I 50 0) ≤ x2 → (Q (.inl none) (m_up I 509 24 ((I 509 24) + 1)) T)) ∧ (¬ ((I 50 0) ≤ x2) → ((¬ (16 + x2) < 0 ∧ (16 + x2).toNatClampNeg < 29) ∧ ((¬ (0 + x2) < 0 ∧ (0 + x2).toNatClampNeg < 29) ∧ (((I 509 (0 + x2).toNatClampNeg) = (-1) → ((¬ x2 < 0 ∧ x2.toNatClampNeg < 8) ∧ (t_M_rests_509_35 E I T Q x2 (16 + x2) 0 (I 509 (16 + x2).toNatClampNeg) (3 + (I (61 + x2.toNatClampNeg) 1))))) ∧ (¬ ((I 509 (0 + x2).toNatClampNeg) = (-1)) → (t_M_rests_509_35 E I T Q x2 (16 + x2) 0 (I 509 (16 + x2).toNatClampNeg) 1))))))
theorem s_M_rests_509_2 {E : MEnv} {I : II} {T : TT} {Q : QQ} {x2 : Int32} (hq : t_M_rests_509_2 E I T Q x2) : ev E 168 2 [some (.ref 46), some (.ref 509), some (.int x2)] [] I T Q := by
  unfold t_M_rests_509_2 at hq
  refine ev_seq 5 (ip' := 7) (loc' := [some (.ref 46), some (.ref 509), some (.int x2)]) (st' := [(.int (I 50 0)), (.int x2)]) (I1 := I) (T1 := T) rfl ?_
  refine ev_br (p := (I 50 0) ≤ x2) (a := 40) (b := 8) (st' := []) inferInstance rfl rfl (fun hb => ?_) (fun hb => ?_)
  · have hq := hq.1 hb
    refine ev_seq 7 (ip' := 47) (loc' := [some (.ref 46), some (.ref 509), some (.int x2)]) (st' := []) (I1 := m_up I 509 24 ((I 509 24) + 1)) (T1 := T) rfl ?_
    exact ev_ret rfl rfl hq
  · have hq := hq.2 hb
    refine ev_seq 9 (ip' := 17) (loc' := [some (.ref 46), some (.ref 509), some (.int x2)]) (st' := [(.int (16 + x2)), (.ref 509), (.int 0), (.int (16 + x2)), (.ref 509)]) (I1 := I) (T1 := T) rfl ?_
    obtain ⟨hg, hq⟩ := hq
    refine ev_iald rfl rfl hg ?_
    refine ev_seq 4 (ip' := 22) (loc' := [some (.ref 46), some (.ref 509), some (.int x2)]) (st' := [(.int (0 + x2)), (.ref 509), (.int (I 509 (16 + x2).toNatClampNeg)), (.int 0), (.int (16 + x2)), (.ref 509)]) (I1 := I) (T1 := T) rfl ?_
    obtain ⟨hg, hq⟩ := hq
    refine ev_iald rfl rfl hg ?_
    refine ev_seq 1 (ip' := 24) (loc' := [some (.ref 46), some (.ref 509), some (.int x2)]) (st' := [(.int (-1)), (.int (I 509 (0 + x2).toNatClampNeg)), (.int (I 509 (16 + x2).toNatClampNeg)), (.int 0), (.int (16 + x2)), (.ref 509)]) (I1 := I) (T1 := T) rfl ?_
    refine ev_br (p := (I 509 (0 + x2).toNatClampNeg) = (-1)) (a := 25) (b := 34) (st' := [(.int (I 509 (16 + x2).toNatClampNeg)), (.int 0), (.int (16 + x2)), (.ref 509)]) inferInstance rfl rfl (fun hb => ?_) (fun hb => ?_)
    · have hq := hq.1 hb
      refine ev_seq 4 (ip' := 29) (loc' := [some (.ref 46), some (.ref 509), some (.int x2)]) (st' := [(.int x2), (.ref 60), (.int 3), (.int (I 509 (16 + x2).toNatClampNeg)), (.int 0), (.int (16 + x2)), (.ref 509)]) (I1 := I) (T1 := T) rfl ?_
      obtain ⟨hg, hq⟩ := hq
      have hr1 := hg
      refine ev_aald rfl rfl hg (RF_60 hg.2) ?_
      refine ev_seq 1 (ip' := 31) (loc' := [some (.ref 46), some (.ref 509), some (.int x2)]) (st' := [(.int 1), (.ref (61 + x2.toNatClampNeg)), (.int 3), (.int (I 509 (16 + x2).toNatClampNeg)), (.int 0), (.int (16 + x2)), (.ref 509)]) (I1 := I) (T1 := T) rfl ?_
      refine ev_iald rfl (KF_60 hr1.2) ⟨by decide, by decide⟩ ?_
      refine ev_seq 2 (ip' := 35) (loc' := [some (.ref 46), some (.ref 509), some (.int x2)]) (st' := [(.int (3 + (I (61 + x2.toNatClampNeg) 1))), (.int (I 509 (16 + x2).toNatClampNeg)), (.int 0), (.int (16 + x2)), (.ref 509)]) (I1 := I) (T1 := T) rfl ?_
      exact s_M_rests_509_35 (T := T) hq
    · have hq := hq.2 hb
      refine ev_seq 1 (ip' := 35) (loc' := [some (.ref 46), some (.ref 509), some (.int x2)]) (st' := [(.int 1), (.int (I 509 (16 + x2).toNatClampNeg)), (.int 0), (.int (16 + x2)), (.ref 509)]) (I1 := I) (T1 := T) rfl ?_
      exact s_M_rests_509_35 (T := T) hq
def t_M_rests_509_0 (E : MEnv) (I : II) (T : TT) (Q : QQ) : Prop := t_M_rests_509_2 E I T Q 0
theorem s_M_rests_509_0 {E : MEnv} {I : II} {T : TT} {Q : QQ} (hq : t_M_rests_509_0 E I T Q) : ev E 168 0 [some (.ref 46), some (.ref 509), none] [] I T Q := by
  unfold t_M_rests_509_0 at hq
  refine ev_seq 2 (ip' := 2) (loc' := [some (.ref 46), some (.ref 509), some (.int 0)]) (st' := []) (I1 := I) (T1 := T) rfl ?_
  exact s_M_rests_509_2 (T := T) hq
/-- FeltHarnessModel.season(IIII)I -/
def t_M_season_48 (E : MEnv) (I : II) (T : TT) (Q : QQ) (y0 : Int32) : Prop := Q (.inl (some (.int y0))) I T
theorem s_M_season_48 {E : MEnv} {I : II} {T : TT} {Q : QQ} {y0 : Int32} (hq : t_M_season_48 E I T Q y0) : ev E 317 48 [none, none, none, none, none] [(.int y0)] I T Q := by
  unfold t_M_season_48 at hq
  exact ev_ret rfl rfl hq
def t_M_season_16 (E : MEnv) (I : II) (T : TT) (Q : QQ) (x1 : Int32) (x2 : Int32) (x3 : Int32) (x4 : Int32) (y1 : Int32) : Prop := ev E 58 0 [some (.ref 46), some (.int y1), some (.int 1), some (.int 1)] [] I T (KI (fun v1 I1 T1 => (v1 = 0 → (ev E 319 0 [some (.ref 46), some (.int x1), some (.int x2), some (.int x3), none, none, none] [] I1 T1 (KV (fun I2 T2 => (x4 = 3 → (ev E 152 0 [some (.ref 46), some (.ref 509), none, none] [] I2 T2 (KI (fun v3 I3 T3 => t_M_season_48 E I3 T3 Q v3) (fun x I1 T1 => Q (.inr x) I1 T1)))) ∧ (¬ (x4 = 3) → ((¬ (26 + x4) < 0 ∧ (26 + x4).toNatClampNeg < 29) ∧ ((¬ (26 + x4) < 0 ∧ (26 + x4).toNatClampNeg < 29) ∧ (t_M_season_48 E I2 T2 Q ((I2 509 (26 + x4).toNatClampNeg) - (I2 508 (26 + x4).toNatClampNeg))))))) (fun x I1 T1 => Q (.inr x) I1 T1)))) ∧ (¬ (v1 = 0) → (Q (.inl (some (.int 0))) I1 T1))) (fun x I1 T1 => Q (.inr x) I1 T1))
theorem s_M_season_16 {E : MEnv} {I : II} {T : TT} {Q : QQ} {x1 : Int32} {x2 : Int32} {x3 : Int32} {x4 : Int32} {y1 : Int32} (hq : t_M_season_16 E I T Q x1 x2 x3 x4 y1) : ev E 317 16 [some (.ref 46), some (.int x1), some (.int x2), some (.int x3), some (.int x4)] [(.int y1), (.ref 46)] I T Q := by
  unfold t_M_season_16 at hq
  refine ev_seq 2 (ip' := 18) (loc' := [some (.ref 46), some (.int x1), some (.int x2), some (.int x3), some (.int x4)]) (st' := [(.int 1), (.int 1), (.int y1), (.ref 46)]) (I1 := I) (T1 := T) rfl ?_
  refine ev_callI rfl rfl rfl (fun v1 I1 T1 hq => ?_) (fun x I1 T1 hq => ?_) hq
  · refine ev_br (p := v1 = 0) (a := 22) (b := 20) (st' := []) inferInstance rfl rfl (fun hb => ?_) (fun hb => ?_)
    · have hq := hq.1 hb
      refine ev_seq 4 (ip' := 26) (loc' := [some (.ref 46), some (.int x1), some (.int x2), some (.int x3), some (.int x4)]) (st' := [(.int x3), (.int x2), (.int x1), (.ref 46)]) (I1 := I1) (T1 := T1) rfl ?_
      refine ev_callV rfl rfl rfl (fun I2 T2 hq => ?_) (fun x I1 T1 hq => ?_) hq
      · refine ev_seq 2 (ip' := 29) (loc' := [some (.ref 46), some (.int x1), some (.int x2), some (.int x3), some (.int x4)]) (st' := [(.int 3), (.int x4)]) (I1 := I2) (T1 := T2) rfl ?_
        refine ev_br (p := x4 = 3) (a := 30) (b := 35) (st' := []) inferInstance rfl rfl (fun hb => ?_) (fun hb => ?_)
        · have hq := hq.1 hb
          refine ev_seq 3 (ip' := 33) (loc' := [some (.ref 46), some (.int x1), some (.int x2), some (.int x3), some (.int x4)]) (st' := [(.ref 509), (.ref 46)]) (I1 := I2) (T1 := T2) rfl ?_
          refine ev_callI rfl rfl rfl (fun v3 I3 T3 hq => ?_) (fun x I1 T1 hq => ?_) hq
          · refine ev_seq 1 (ip' := 48) (loc' := [some (.ref 46), some (.int x1), some (.int x2), some (.int x3), some (.int x4)]) (st' := [(.int v3)]) (I1 := I3) (T1 := T3) rfl ?_
            refine ev_fg [false, false, false, false, false] (loc' := [none, none, none, none, none]) rfl ?_
            exact s_M_season_48 (T := T3) hq
          · exact ⟨by decide, hq⟩
        · have hq := hq.2 hb
          refine ev_seq 5 (ip' := 40) (loc' := [some (.ref 46), some (.int x1), some (.int x2), some (.int x3), some (.int x4)]) (st' := [(.int (26 + x4)), (.ref 509)]) (I1 := I2) (T1 := T2) rfl ?_
          obtain ⟨hg, hq⟩ := hq
          refine ev_iald rfl rfl hg ?_
          refine ev_seq 5 (ip' := 46) (loc' := [some (.ref 46), some (.int x1), some (.int x2), some (.int x3), some (.int x4)]) (st' := [(.int (26 + x4)), (.ref 508), (.int (I2 509 (26 + x4).toNatClampNeg))]) (I1 := I2) (T1 := T2) rfl ?_
          obtain ⟨hg, hq⟩ := hq
          refine ev_iald rfl rfl hg ?_
          refine ev_seq 1 (ip' := 48) (loc' := [some (.ref 46), some (.int x1), some (.int x2), some (.int x3), some (.int x4)]) (st' := [(.int ((I2 509 (26 + x4).toNatClampNeg) - (I2 508 (26 + x4).toNatClampNeg)))]) (I1 := I2) (T1 := T2) rfl ?_
          refine ev_fg [false, false, false, false, false] (loc' := [none, none, none, none, none]) rfl ?_
          exact s_M_season_48 (T := T2) hq
      · exact ⟨by decide, hq⟩
    · have hq := hq.2 hb
      refine ev_seq 1 (ip' := 21) (loc' := [some (.ref 46), some (.int x1), some (.int x2), some (.int x3), some (.int x4)]) (st' := [(.int 0)]) (I1 := I1) (T1 := T1) rfl ?_
      exact ev_ret rfl rfl hq
  · exact ⟨by decide, hq⟩
def t_M_season_13 (E : MEnv) (I : II) (T : TT) (Q : QQ) (x1 : Int32) (x2 : Int32) (x3 : Int32) (x4 : Int32) : Prop := t_M_season_16 E I T Q x1 x2 x3 x4 1
theorem s_M_season_13 {E : MEnv} {I : II} {T : TT} {Q : QQ} {x1 : Int32} {x2 : Int32} {x3 : Int32} {x4 : Int32} (hq : t_M_season_13 E I T Q x1 x2 x3 x4) : ev E 317 13 [some (.ref 46), some (.int x1), some (.int x2), some (.int x3), some (.int x4)] [(.ref 46)] I T Q := by
  unfold t_M_season_13 at hq
  refine ev_seq 2 (ip' := 16) (loc' := [some (.ref 46), some (.int x1), some (.int x2), some (.int x3), some (.int x4)]) (st' := [(.int 1), (.ref 46)]) (I1 := I) (T1 := T) rfl ?_
  exact s_M_season_16 (T := T) hq
def t_M_season_0 (E : MEnv) (I : II) (T : TT) (Q : QQ) (x1 : Int32) (x2 : Int32) (x3 : Int32) (x4 : Int32) : Prop := ev E 318 0 [some (.int x2), some (.int x3)] [] (m_up I 46 0 0) T (KI (fun v1 I1 T1 => (v1 = 0 → (t_M_season_13 E I1 T1 Q x1 x2 x3 x4)) ∧ (¬ (v1 = 0) → (ev E 57 0 [some (.int x4), some (.int 0), some (.int 3)] [] I1 T1 (KI (fun v2 I2 T2 => (v2 = 0 → (t_M_season_13 E I2 T2 Q x1 x2 x3 x4)) ∧ (¬ (v2 = 0) → (t_M_season_16 E I2 T2 Q x1 x2 x3 x4 0))) (fun _ _ _ => False))))) (fun _ _ _ => False))
theorem s_M_season_0 {E : MEnv} {I : II} {T : TT} {Q : QQ} {x1 : Int32} {x2 : Int32} {x3 : Int32} {x4 : Int32} (hq : t_M_season_0 E I T Q x1 x2 x3 x4) : ev E 317 0 [some (.ref 46), some (.int x1), some (.int x2), some (.int x3), some (.int x4)] [] I T Q := by
  unfold t_M_season_0 at hq
  refine ev_seq 6 (ip' := 6) (loc' := [some (.ref 46), some (.int x1), some (.int x2), some (.int x3), some (.int x4)]) (st' := [(.int x3), (.int x2), (.ref 46)]) (I1 := m_up I 46 0 0) (T1 := T) rfl ?_
  refine ev_callI rfl rfl rfl (fun v1 I1 T1 hq => ?_) (fun x I1 T1 hq => ?_) hq
  · refine ev_br (p := v1 = 0) (a := 13) (b := 8) (st' := [(.ref 46)]) inferInstance rfl rfl (fun hb => ?_) (fun hb => ?_)
    · have hq := hq.1 hb
      exact s_M_season_13 (T := T1) hq
    · have hq := hq.2 hb
      refine ev_seq 3 (ip' := 11) (loc' := [some (.ref 46), some (.int x1), some (.int x2), some (.int x3), some (.int x4)]) (st' := [(.int 3), (.int 0), (.int x4), (.ref 46)]) (I1 := I1) (T1 := T1) rfl ?_
      refine ev_callI rfl rfl rfl (fun v2 I2 T2 hq => ?_) (fun x I1 T1 hq => ?_) hq
      · refine ev_br (p := v2 = 0) (a := 13) (b := 15) (st' := [(.ref 46)]) inferInstance rfl rfl (fun hb => ?_) (fun hb => ?_)
        · have hq := hq.1 hb
          exact s_M_season_13 (T := T2) hq
        · have hq := hq.2 hb
          refine ev_seq 1 (ip' := 16) (loc' := [some (.ref 46), some (.int x1), some (.int x2), some (.int x3), some (.int x4)]) (st' := [(.int 0), (.ref 46)]) (I1 := I2) (T1 := T2) rfl ?_
          exact s_M_season_16 (T := T2) hq
      · exact hq.elim
  · exact hq.elim
/-- FeltHarnessModel.seasonBy(III)V -/
def t_M_seasonBy_92 (E : MEnv) (I : II) (T : TT) (Q : QQ) (x2 : Int32) (x3 : Int32) (x4 : Int32) : Prop := ev E 168 0 [some (.ref 46), some (.ref 509), none] [] I T (KV (fun I1 T1 => ev E 319 10 [some (.ref 46), none, some (.int x2), some (.int x3), some (.int (x4 + 1)), none, none] [] I1 T1 Q) (fun x I1 T1 => Q (.inr x) I1 T1))
theorem s_M_seasonBy_92 {E : MEnv} {I : II} {T : TT} {Q : QQ} {x2 : Int32} {x3 : Int32} {x4 : Int32} (hq : t_M_seasonBy_92 E I T Q x2 x3 x4) : ev E 319 92 [some (.ref 46), none, some (.int x2), some (.int x3), some (.int x4), none, none] [] I T Q := by
  unfold t_M_seasonBy_92 at hq
  refine ev_seq 3 (ip' := 95) (loc' := [some (.ref 46), none, some (.int x2), some (.int x3), some (.int x4), none, none]) (st' := [(.ref 509), (.ref 46)]) (I1 := I) (T1 := T) rfl ?_
  refine ev_callV rfl rfl rfl (fun I1 T1 hq => ?_) (fun x I1 T1 hq => ?_) hq
  · refine ev_seq 2 (ip' := 10) (loc' := [some (.ref 46), none, some (.int x2), some (.int x3), some (.int (x4 + 1)), none, none]) (st' := []) (I1 := I1) (T1 := T1) rfl ?_
    exact hq
  · exact ⟨by decide, hq⟩
def t_M_seasonBy_58 (E : MEnv) (I : II) (T : TT) (Q : QQ) (x2 : Int32) (x3 : Int32) (x4 : Int32) : Prop := ev E 320 0 [some (.ref 46), some (.int 16)] [] I T (KI (fun v1 I1 T1 => (x3 ≤ v1 → (t_M_seasonBy_92 E I1 T1 Q x2 x3 x4)) ∧ (¬ (x3 ≤ v1) → (((I1 509 25) = (I1 50 1) → (t_M_seasonBy_92 E (m_up I1 509 25 0) T1 Q x2 x3 x4)) ∧ (¬ ((I1 509 25) = (I1 50 1)) → (ev E 154 0 [some (.ref 46), some (.ref 509)] [] I1 T1 (KI (fun v2 I2 T2 => (v2 = 0 → (t_M_seasonBy_92 E I2 T2 Q x2 x3 x4)) ∧ (¬ (v2 = 0) → (ev E 155 0 [some (.ref 46), some (.ref 509), some (.int (I2 509 25)), none, none, none, none] [] I2 T2 (KI (fun v3 I3 T3 => t_M_seasonBy_92 E I3 T3 Q x2 x3 x4) (fun x I1 T1 => Q (.inr x) I1 T1))))) (fun x I1 T1 => Q (.inr x) I1 T1))))))) (fun x I1 T1 => Q (.inr x) I1 T1))
theorem s_M_seasonBy_58 {E : MEnv} {I : II} {T : TT} {Q : QQ} {x2 : Int32} {x3 : Int32} {x4 : Int32} (hq : t_M_seasonBy_58 E I T Q x2 x3 x4) : ev E 319 58 [some (.ref 46), none, some (.int x2), some (.int x3), some (.int x4), none, none] [] I T Q := by
  unfold t_M_seasonBy_58 at hq
  refine ev_seq 2 (ip' := 60) (loc' := [some (.ref 46), none, some (.int x2), some (.int x3), some (.int x4), none, none]) (st' := [(.int 16), (.ref 46)]) (I1 := I) (T1 := T) rfl ?_
  refine ev_callI rfl rfl rfl (fun v1 I1 T1 hq => ?_) (fun x I1 T1 hq => ?_) hq
  · refine ev_seq 1 (ip' := 62) (loc' := [some (.ref 46), none, some (.int x2), some (.int x3), some (.int x4), none, none]) (st' := [(.int x3), (.int v1)]) (I1 := I1) (T1 := T1) rfl ?_
    refine ev_br (p := x3 ≤ v1) (a := 92) (b := 63) (st' := []) inferInstance rfl rfl (fun hb => ?_) (fun hb => ?_)
    · have hq := hq.1 hb
      exact s_M_seasonBy_92 (T := T1) hq
    · have hq := hq.2 hb
      refine ev_seq 8 (ip' := 71) (loc' := [some (.ref 46), none, some (.int x2), some (.int x3), some (.int x4), none, none]) (st' := [(.int (I1 50 1)), (.int (I1 509 25))]) (I1 := I1) (T1 := T1) rfl ?_
      refine ev_br (p := (I1 509 25) = (I1 50 1)) (a := 72) (b := 78) (st' := []) inferInstance rfl rfl (fun hb => ?_) (fun hb => ?_)
      · have hq := hq.1 hb
        refine ev_seq 6 (ip' := 92) (loc' := [some (.ref 46), none, some (.int x2), some (.int x3), some (.int x4), none, none]) (st' := []) (I1 := m_up I1 509 25 0) (T1 := T1) rfl ?_
        exact s_M_seasonBy_92 (T := T1) hq
      · have hq := hq.2 hb
        refine ev_seq 3 (ip' := 81) (loc' := [some (.ref 46), none, some (.int x2), some (.int x3), some (.int x4), none, none]) (st' := [(.ref 509), (.ref 46)]) (I1 := I1) (T1 := T1) rfl ?_
        refine ev_callI rfl rfl rfl (fun v2 I2 T2 hq => ?_) (fun x I1 T1 hq => ?_) hq
        · refine ev_br (p := v2 = 0) (a := 92) (b := 83) (st' := []) inferInstance rfl rfl (fun hb => ?_) (fun hb => ?_)
          · have hq := hq.1 hb
            exact s_M_seasonBy_92 (T := T2) hq
          · have hq := hq.2 hb
            refine ev_seq 7 (ip' := 90) (loc' := [some (.ref 46), none, some (.int x2), some (.int x3), some (.int x4), none, none]) (st' := [(.int (I2 509 25)), (.ref 509), (.ref 46)]) (I1 := I2) (T1 := T2) rfl ?_
            refine ev_callI rfl rfl rfl (fun v3 I3 T3 hq => ?_) (fun x I1 T1 hq => ?_) hq
            · refine ev_seq 1 (ip' := 92) (loc' := [some (.ref 46), none, some (.int x2), some (.int x3), some (.int x4), none, none]) (st' := []) (I1 := I3) (T1 := T3) rfl ?_
              exact s_M_seasonBy_92 (T := T3) hq
            · exact ⟨by decide, hq⟩
        · exact ⟨by decide, hq⟩
  · exact ⟨by decide, hq⟩
def t_M_seasonBy_57 (E : MEnv) (I : II) (T : TT) (Q : QQ) (x2 : Int32) (x3 : Int32) (x4 : Int32) (y1 : Int32) (y2 : Int32) : Prop := (¬ y1 < 0 ∧ y1.toNatClampNeg < 29) ∧ (t_M_seasonBy_58 E (m_up I 509 y1.toNatClampNeg y2) T Q x2 x3 x4)
theorem s_M_seasonBy_57 {E : MEnv} {I : II} {T : TT} {Q : QQ} {x2 : Int32} {x3 : Int32} {x4 : Int32} {y1 : Int32} {y2 : Int32} (hq : t_M_seasonBy_57 E I T Q x2 x3 x4 y1 y2) : ev E 319 57 [some (.ref 46), none, some (.int x2), some (.int x3), some (.int x4), none, none] [(.int y2), (.int y1), (.ref 509)] I T Q := by
  unfold t_M_seasonBy_57 at hq
  obtain ⟨hg, hq⟩ := hq
  refine ev_iast rfl rfl hg ?_
  exact s_M_seasonBy_58 (T := T) hq
def t_M_seasonBy_26 (E : MEnv) (I : II) (T : TT) (Q : QQ) (x2 : Int32) (x3 : Int32) (x4 : Int32) (y0 : Int32) : Prop := (y0 = (-1) → (t_M_seasonBy_58 E I T Q x2 x3 x4)) ∧ (¬ (y0 = (-1)) → (ev E 153 0 [some (.ref 509), some (.int (0 + y0)), some (.int (-1))] [] I T (KI (fun v1 I1 T1 => (v1 = 0 → (ev E 320 0 [some (.ref 46), some (.int 4)] [] I1 T1 (KI (fun v2 I2 T2 => ev E 150 0 [some (.ref 46), some (.ref 509), some (.int y0), some (.int v2)] [] I2 T2 (KI (fun v3 I3 T3 => (v3 = 0 → (t_M_seasonBy_57 E I3 T3 Q x2 x3 x4 (0 + y0) (-1))) ∧ (¬ (v3 = 0) → (t_M_seasonBy_57 E I3 T3 Q x2 x3 x4 (0 + y0) v2))) (fun x I1 T1 => Q (.inr x) I1 T1))) (fun x I1 T1 => Q (.inr x) I1 T1)))) ∧ (¬ (v1 = 0) → (t_M_seasonBy_58 E I1 T1 Q x2 x3 x4))) (fun _ _ _ => False))))
theorem s_M_seasonBy_26 {E : MEnv} {I : II} {T : TT} {Q : QQ} {x2 : Int32} {x3 : Int32} {x4 : Int32} {y0 : Int32} (hq : t_M_seasonBy_26 E I T Q x2 x3 x4 y0) : ev E 319 26 [some (.ref 46), none, some (.int x2), some (.int x3), some (.int x4), none, none] [(.int y0)] I T Q := by
  unfold t_M_seasonBy_26 at hq
  refine ev_seq 3 (ip' := 29) (loc' := [some (.ref 46), none, some (.int x2), some (.int x3), some (.int x4), some (.int y0), none]) (st' := [(.int (-1)), (.int y0)]) (I1 := I) (T1 := T) rfl ?_
  refine ev_br (p := y0 = (-1)) (a := 58) (b := 30) (st' := []) inferInstance rfl rfl (fun hb => ?_) (fun hb => ?_)
  · have hq := hq.1 hb
    refine ev_fg [true, true, true, true, true, false, true] (loc' := [some (.ref 46), none, some (.int x2), some (.int x3), some (.int x4), none, none]) rfl ?_
    exact s_M_seasonBy_58 (T := T) hq
  · have hq := hq.2 hb
    refine ev_seq 6 (ip' := 36) (loc' := [some (.ref 46), none, some (.int x2), some (.int x3), some (.int x4), some (.int y0), none]) (st' := [(.int (-1)), (.int (0 + y0)), (.ref 509)]) (I1 := I) (T1 := T) rfl ?_
    refine ev_callI rfl rfl rfl (fun v1 I1 T1 hq => ?_) (fun x I1 T1 hq => ?_) hq
    · refine ev_br (p := v1 = 0) (a := 38) (b := 58) (st' := []) inferInstance rfl rfl (fun hb => ?_) (fun hb => ?_)
      · have hq := hq.1 hb
        refine ev_seq 2 (ip' := 40) (loc' := [some (.ref 46), none, some (.int x2), some (.int x3), some (.int x4), some (.int y0), none]) (st' := [(.int 4), (.ref 46)]) (I1 := I1) (T1 := T1) rfl ?_
        refine ev_callI rfl rfl rfl (fun v2 I2 T2 hq => ?_) (fun x I1 T1 hq => ?_) hq
        · refine ev_seq 11 (ip' := 52) (loc' := [some (.ref 46), none, some (.int x2), some (.int x3), some (.int x4), some (.int y0), some (.int v2)]) (st' := [(.int v2), (.int y0), (.ref 509), (.ref 46), (.int (0 + y0)), (.ref 509)]) (I1 := I2) (T1 := T2) rfl ?_
          refine ev_callI rfl rfl rfl (fun v3 I3 T3 hq => ?_) (fun x I1 T1 hq => ?_) hq
          · refine ev_br (p := v3 = 0) (a := 56) (b := 54) (st' := [(.int (0 + y0)), (.ref 509)]) inferInstance rfl rfl (fun hb => ?_) (fun hb => ?_)
            · have hq := hq.1 hb
              refine ev_seq 1 (ip' := 57) (loc' := [some (.ref 46), none, some (.int x2), some (.int x3), some (.int x4), some (.int y0), some (.int v2)]) (st' := [(.int (-1)), (.int (0 + y0)), (.ref 509)]) (I1 := I3) (T1 := T3) rfl ?_
              refine ev_fg [true, true, true, true, true, false, false] (loc' := [some (.ref 46), none, some (.int x2), some (.int x3), some (.int x4), none, none]) rfl ?_
              exact s_M_seasonBy_57 (T := T3) hq
            · have hq := hq.2 hb
              refine ev_seq 2 (ip' := 57) (loc' := [some (.ref 46), none, some (.int x2), some (.int x3), some (.int x4), some (.int y0), some (.int v2)]) (st' := [(.int v2), (.int (0 + y0)), (.ref 509)]) (I1 := I3) (T1 := T3) rfl ?_
              refine ev_fg [true, true, true, true, true, false, false] (loc' := [some (.ref 46), none, some (.int x2), some (.int x3), some (.int x4), none, none]) rfl ?_
              exact s_M_seasonBy_57 (T := T3) hq
          · exact ⟨by decide, hq⟩
        · exact ⟨by decide, hq⟩
      · have hq := hq.2 hb
        refine ev_fg [true, true, true, true, true, false, true] (loc' := [some (.ref 46), none, some (.int x2), some (.int x3), some (.int x4), none, none]) rfl ?_
        exact s_M_seasonBy_58 (T := T1) hq
    · exact hq.elim
def t_M_seasonBy_10 (E : MEnv) (I : II) (T : TT) (Q : QQ) (x2 : Int32) (x3 : Int32) (x4 : Int32) : Prop := (x2 ≤ x4 → (Q (.inl none) I T)) ∧ (¬ (x2 ≤ x4) → (((I 50 0) ≤ 0 → (t_M_seasonBy_26 E I T Q x2 x3 x4 (-1))) ∧ (¬ ((I 50 0) ≤ 0) → (ev E 320 0 [some (.ref 46), some (.int (I 50 0))] [] I T (KI (fun v1 I1 T1 => t_M_seasonBy_26 E I1 T1 Q x2 x3 x4 v1) (fun x I1 T1 => Q (.inr x) I1 T1))))))
theorem s_M_seasonBy_10 {E : MEnv} {I : II} {T : TT} {Q : QQ} {x2 : Int32} {x3 : Int32} {x4 : Int32} (hq : t_M_seasonBy_10 E I T Q x2 x3 x4) : ev E 319 10 [some (.ref 46), none, some (.int x2), some (.int x3), some (.int x4), none, none] [] I T Q := by
  unfold t_M_seasonBy_10 at hq
  refine ev_seq 2 (ip' := 12) (loc' := [some (.ref 46), none, some (.int x2), some (.int x3), some (.int x4), none, none]) (st' := [(.int x2), (.int x4)]) (I1 := I) (T1 := T) rfl ?_
  refine ev_br (p := x2 ≤ x4) (a := 98) (b := 13) (st' := []) inferInstance rfl rfl (fun hb => ?_) (fun hb => ?_)
  · have hq := hq.1 hb
    exact ev_ret rfl rfl hq
  · have hq := hq.2 hb
    refine ev_seq 4 (ip' := 17) (loc' := [some (.ref 46), none, some (.int x2), some (.int x3), some (.int x4), none, none]) (st' := [(.int (I 50 0))]) (I1 := I) (T1 := T) rfl ?_
    refine ev_br (p := (I 50 0) ≤ 0) (a := 25) (b := 18) (st' := []) inferInstance rfl rfl (fun hb => ?_) (fun hb => ?_)
    · have hq := hq.1 hb
      refine ev_seq 1 (ip' := 26) (loc' := [some (.ref 46), none, some (.int x2), some (.int x3), some (.int x4), none, none]) (st' := [(.int (-1))]) (I1 := I) (T1 := T) rfl ?_
      exact s_M_seasonBy_26 (T := T) hq
    · have hq := hq.2 hb
      refine ev_seq 5 (ip' := 23) (loc' := [some (.ref 46), none, some (.int x2), some (.int x3), some (.int x4), none, none]) (st' := [(.int (I 50 0)), (.ref 46)]) (I1 := I) (T1 := T) rfl ?_
      refine ev_callI rfl rfl rfl (fun v1 I1 T1 hq => ?_) (fun x I1 T1 hq => ?_) hq
      · refine ev_seq 1 (ip' := 26) (loc' := [some (.ref 46), none, some (.int x2), some (.int x3), some (.int x4), none, none]) (st' := [(.int v1)]) (I1 := I1) (T1 := T1) rfl ?_
        exact s_M_seasonBy_26 (T := T1) hq
      · exact ⟨by decide, hq⟩
def t_M_seasonBy_0 (E : MEnv) (I : II) (T : TT) (Q : QQ) (x1 : Int32) (x2 : Int32) (x3 : Int32) : Prop := ev E 147 0 [some (.ref 508), some (.ref 509), none] [] I T (KV (fun I1 T1 => t_M_seasonBy_10 E (m_up I1 46 47 x1) T1 Q x2 x3 0) (fun _ _ _ => False))
theorem s_M_seasonBy_0 {E : MEnv} {I : II} {T : TT} {Q : QQ} {x1 : Int32} {x2 : Int32} {x3 : Int32} (hq : t_M_seasonBy_0 E I T Q x1 x2 x3) : ev E 319 0 [some (.ref 46), some (.int x1), some (.int x2), some (.int x3), none, none, none] [] I T Q := by
  unfold t_M_seasonBy_0 at hq
  refine ev_seq 4 (ip' := 4) (loc' := [some (.ref 46), some (.int x1), some (.int x2), some (.int x3), none, none, none]) (st' := [(.ref 509), (.ref 508)]) (I1 := I) (T1 := T) rfl ?_
  refine ev_callV rfl rfl rfl (fun I1 T1 hq => ?_) (fun x I1 T1 hq => ?_) hq
  · refine ev_seq 5 (ip' := 10) (loc' := [some (.ref 46), some (.int x1), some (.int x2), some (.int x3), some (.int 0), none, none]) (st' := []) (I1 := m_up I1 46 47 x1) (T1 := T1) rfl ?_
    refine ev_fg [true, false, true, true, true, true, true] (loc' := [some (.ref 46), none, some (.int x2), some (.int x3), some (.int 0), none, none]) rfl ?_
    exact s_M_seasonBy_10 (T := T1) hq
  · exact hq.elim
/-- FeltHarnessModel.side(I)I -/
def t_M_side_50 (E : MEnv) (I : II) (T : TT) (Q : QQ) (x3 : Int32) (y0 : Int32) (y1 : Int32) : Prop := ev E 301 22 [some (.ref 46), none, some (.int (y0 + y1)), some (.int (x3 + 2))] [] I T Q
theorem s_M_side_50 {E : MEnv} {I : II} {T : TT} {Q : QQ} {x3 : Int32} {y0 : Int32} {y1 : Int32} (hq : t_M_side_50 E I T Q x3 y0 y1) : ev E 301 50 [some (.ref 46), none, none, some (.int x3)] [(.int y1), (.int y0)] I T Q := by
  unfold t_M_side_50 at hq
  refine ev_seq 4 (ip' := 22) (loc' := [some (.ref 46), none, some (.int (y0 + y1)), some (.int (x3 + 2))]) (st' := []) (I1 := I) (T1 := T) rfl ?_
  exact hq
def t_M_side_22 (E : MEnv) (I : II) (T : TT) (Q : QQ) (x2 : Int32) (x3 : Int32) : Prop := (4 ≤ x3 → (Q (.inl (some (.int x2))) I T)) ∧ (¬ (4 ≤ x3) → (ev E 151 0 [some (.ref 46), some (.ref 508), some (.int x3), none] [] I T (KI (fun v1 I1 T1 => (v1 = (-1) → (t_M_side_50 E I1 T1 Q x3 x2 0)) ∧ (¬ (v1 = (-1)) → (ev E 151 0 [some (.ref 46), some (.ref 508), some (.int x3), none] [] I1 T1 (KI (fun v2 I2 T2 => ev E 152 0 [some (.ref 46), some (.ref 508), none, none] [] I2 T2 (KI (fun v3 I3 T3 => ev E 157 0 [some (.int v3), none, none] [] I3 T3 (KI (fun v4 I4 T4 => ev E 158 0 [some (.ref 46), some (.ref 508), some (.int v2), some (.int x3), some (.int v4)] [] I4 T4 (KI (fun v5 I5 T5 => t_M_side_50 E I5 T5 Q x3 x2 v5) (fun x I1 T1 => Q (.inr x) I1 T1))) (fun _ _ _ => False))) (fun x I1 T1 => Q (.inr x) I1 T1))) (fun x I1 T1 => Q (.inr x) I1 T1))))) (fun x I1 T1 => Q (.inr x) I1 T1))))
theorem s_M_side_22 {E : MEnv} {I : II} {T : TT} {Q : QQ} {x2 : Int32} {x3 : Int32} (hq : t_M_side_22 E I T Q x2 x3) : ev E 301 22 [some (.ref 46), none, some (.int x2), some (.int x3)] [] I T Q := by
  unfold t_M_side_22 at hq
  refine ev_seq 2 (ip' := 24) (loc' := [some (.ref 46), none, some (.int x2), some (.int x3)]) (st' := [(.int 4), (.int x3)]) (I1 := I) (T1 := T) rfl ?_
  refine ev_br (p := 4 ≤ x3) (a := 54) (b := 25) (st' := []) inferInstance rfl rfl (fun hb => ?_) (fun hb => ?_)
  · have hq := hq.1 hb
    refine ev_seq 1 (ip' := 55) (loc' := [some (.ref 46), none, some (.int x2), some (.int x3)]) (st' := [(.int x2)]) (I1 := I) (T1 := T) rfl ?_
    exact ev_ret rfl rfl hq
  · have hq := hq.2 hb
    refine ev_seq 5 (ip' := 30) (loc' := [some (.ref 46), none, some (.int x2), some (.int x3)]) (st' := [(.int x3), (.ref 508), (.ref 46), (.int x2)]) (I1 := I) (T1 := T) rfl ?_
    refine ev_callI rfl rfl rfl (fun v1 I1 T1 hq => ?_) (fun x I1 T1 hq => ?_) hq
    · refine ev_seq 1 (ip' := 32) (loc' := [some (.ref 46), none, some (.int x2), some (.int x3)]) (st' := [(.int (-1)), (.int v1), (.int x2)]) (I1 := I1) (T1 := T1) rfl ?_
      refine ev_br (p := v1 = (-1)) (a := 33) (b := 35) (st' := [(.int x2)]) inferInstance rfl rfl (fun hb => ?_) (fun hb => ?_)
      · have hq := hq.1 hb
        refine ev_seq 2 (ip' := 50) (loc' := [some (.ref 46), none, some (.int x2), some (.int x3)]) (st' := [(.int 0), (.int x2)]) (I1 := I1) (T1 := T1) rfl ?_
        refine ev_fg [true, true, false, true] (loc' := [some (.ref 46), none, none, some (.int x3)]) rfl ?_
        exact s_M_side_50 (T := T1) hq
      · have hq := hq.2 hb
        refine ev_seq 7 (ip' := 42) (loc' := [some (.ref 46), none, some (.int x2), some (.int x3)]) (st' := [(.int x3), (.ref 508), (.ref 46), (.ref 508), (.ref 46), (.int x2)]) (I1 := I1) (T1 := T1) rfl ?_
        refine ev_callI rfl rfl rfl (fun v2 I2 T2 hq => ?_) (fun x I1 T1 hq => ?_) hq
        · refine ev_seq 4 (ip' := 47) (loc' := [some (.ref 46), none, some (.int x2), some (.int x3)]) (st' := [(.ref 508), (.ref 46), (.int x3), (.int v2), (.ref 508), (.ref 46), (.int x2)]) (I1 := I2) (T1 := T2) rfl ?_
          refine ev_callI rfl rfl rfl (fun v3 I3 T3 hq => ?_) (fun x I1 T1 hq => ?_) hq
          · refine ev_callI rfl rfl rfl (fun v4 I4 T4 hq => ?_) (fun x I1 T1 hq => ?_) hq
            · refine ev_callI rfl rfl rfl (fun v5 I5 T5 hq => ?_) (fun x I1 T1 hq => ?_) hq
              · refine ev_fg [true, true, false, true] (loc' := [some (.ref 46), none, none, some (.int x3)]) rfl ?_
                exact s_M_side_50 (T := T5) hq
              · exact ⟨by decide, hq⟩
            · exact hq.elim
          · exact ⟨by decide, hq⟩
        · exact ⟨by decide, hq⟩
    · exact ⟨by decide, hq⟩
def t_M_side_12 (E : MEnv) (I : II) (T : TT) (Q : QQ) (x1 : Int32) (y1 : Int32) : Prop := ev E 58 0 [some (.ref 46), some (.int y1), some (.int 1), some (.int 1)] [] I T (KI (fun v1 I1 T1 => (v1 = 0 → (t_M_side_22 E I1 T1 Q 0 x1)) ∧ (¬ (v1 = 0) → (Q (.inl (some (.int 0))) I1 T1))) (fun x I1 T1 => Q (.inr x) I1 T1))
theorem s_M_side_12 {E : MEnv} {I : II} {T : TT} {Q : QQ} {x1 : Int32} {y1 : Int32} (hq : t_M_side_12 E I T Q x1 y1) : ev E 301 12 [some (.ref 46), some (.int x1), none, none] [(.int y1), (.ref 46)] I T Q := by
  unfold t_M_side_12 at hq
  refine ev_seq 2 (ip' := 14) (loc' := [some (.ref 46), some (.int x1), none, none]) (st' := [(.int 1), (.int 1), (.int y1), (.ref 46)]) (I1 := I) (T1 := T) rfl ?_
  refine ev_callI rfl rfl rfl (fun v1 I1 T1 hq => ?_) (fun x I1 T1 hq => ?_) hq
  · refine ev_br (p := v1 = 0) (a := 18) (b := 16) (st' := []) inferInstance rfl rfl (fun hb => ?_) (fun hb => ?_)
    · have hq := hq.1 hb
      refine ev_seq 4 (ip' := 22) (loc' := [some (.ref 46), some (.int x1), some (.int 0), some (.int x1)]) (st' := []) (I1 := I1) (T1 := T1) rfl ?_
      refine ev_fg [true, false, true, true] (loc' := [some (.ref 46), none, some (.int 0), some (.int x1)]) rfl ?_
      exact s_M_side_22 (T := T1) hq
    · have hq := hq.2 hb
      refine ev_seq 1 (ip' := 17) (loc' := [some (.ref 46), some (.int x1), none, none]) (st' := [(.int 0)]) (I1 := I1) (T1 := T1) rfl ?_
      exact ev_ret rfl rfl hq
  · exact ⟨by decide, hq⟩
def t_M_side_0 (E : MEnv) (I : II) (T : TT) (Q : QQ) (x1 : Int32) : Prop := ev E 57 0 [some (.int x1), some (.int 0), some (.int 1)] [] (m_up I 46 0 0) T (KI (fun v1 I1 T1 => (v1 = 0 → (t_M_side_12 E I1 T1 Q x1 1)) ∧ (¬ (v1 = 0) → (t_M_side_12 E I1 T1 Q x1 0))) (fun _ _ _ => False))
theorem s_M_side_0 {E : MEnv} {I : II} {T : TT} {Q : QQ} {x1 : Int32} (hq : t_M_side_0 E I T Q x1) : ev E 301 0 [some (.ref 46), some (.int x1), none, none] [] I T Q := by
  unfold t_M_side_0 at hq
  refine ev_seq 7 (ip' := 7) (loc' := [some (.ref 46), some (.int x1), none, none]) (st' := [(.int 1), (.int 0), (.int x1), (.ref 46)]) (I1 := m_up I 46 0 0) (T1 := T) rfl ?_
  refine ev_callI rfl rfl rfl (fun v1 I1 T1 hq => ?_) (fun x I1 T1 hq => ?_) hq
  · refine ev_br (p := v1 = 0) (a := 9) (b := 11) (st' := [(.ref 46)]) inferInstance rfl rfl (fun hb => ?_) (fun hb => ?_)
    · have hq := hq.1 hb
      refine ev_seq 2 (ip' := 12) (loc' := [some (.ref 46), some (.int x1), none, none]) (st' := [(.int 1), (.ref 46)]) (I1 := I1) (T1 := T1) rfl ?_
      exact s_M_side_12 (T := T1) hq
    · have hq := hq.2 hb
      refine ev_seq 1 (ip' := 12) (loc' := [some (.ref 46), some (.int x1), none, none]) (st' := [(.int 0), (.ref 46)]) (I1 := I1) (T1 := T1) rfl ?_
      exact s_M_side_12 (T := T1) hq
  · exact hq.elim
/-- FeltHarnessModel.sign(I)V -/
def t_M_sign_24 (E : MEnv) (I : II) (T : TT) (Q : QQ) : Prop := Q (.inl none) I T
theorem s_M_sign_24 {E : MEnv} {I : II} {T : TT} {Q : QQ} (hq : t_M_sign_24 E I T Q) : ev E 74 24 [none, none] [] I T Q := by
  unfold t_M_sign_24 at hq
  exact ev_ret rfl rfl hq
def t_M_sign_0 (E : MEnv) (I : II) (T : TT) (Q : QQ) (x1 : Int32) : Prop := ((I 46 5) = 0 → (ev E 60 0 [some (.ref 46)] [] I T (KV (fun I1 T1 => ev E 61 0 [some (.ref 46), some (.int (I1 46 4))] [] I1 T1 (KI (fun v2 I2 T2 => (v2 = x1 → (t_M_sign_24 E (m_up I2 46 4 ((I2 46 4) + 1)) T2 Q )) ∧ (¬ (v2 = x1) → (ev E 69 0 [some (.ref 46), some (.int 1), some (.int (I2 46 4))] [] I2 T2 (KV (fun I3 T3 => t_M_sign_24 E I3 T3 Q ) (fun x I1 T1 => Q (.inr x) I1 T1))))) (fun x I1 T1 => Q (.inr x) I1 T1))) (fun x I1 T1 => Q (.inr x) I1 T1)))) ∧ (¬ ((I 46 5) = 0) → (Q (.inl none) I T))
theorem s_M_sign_0 {E : MEnv} {I : II} {T : TT} {Q : QQ} {x1 : Int32} (hq : t_M_sign_0 E I T Q x1) : ev E 74 0 [some (.ref 46), some (.int x1)] [] I T Q := by
  unfold t_M_sign_0 at hq
  refine ev_seq 2 (ip' := 2) (loc' := [some (.ref 46), some (.int x1)]) (st' := [(.int (I 46 5))]) (I1 := I) (T1 := T) rfl ?_
  refine ev_br (p := (I 46 5) = 0) (a := 4) (b := 3) (st' := []) inferInstance rfl rfl (fun hb => ?_) (fun hb => ?_)
  · have hq := hq.1 hb
    refine ev_seq 1 (ip' := 5) (loc' := [some (.ref 46), some (.int x1)]) (st' := [(.ref 46)]) (I1 := I) (T1 := T) rfl ?_
    refine ev_callV rfl rfl rfl (fun I1 T1 hq => ?_) (fun x I1 T1 hq => ?_) hq
    · refine ev_seq 3 (ip' := 9) (loc' := [some (.ref 46), some (.int x1)]) (st' := [(.int (I1 46 4)), (.ref 46)]) (I1 := I1) (T1 := T1) rfl ?_
      refine ev_callI rfl rfl rfl (fun v2 I2 T2 hq => ?_) (fun x I1 T1 hq => ?_) hq
      · refine ev_seq 1 (ip' := 11) (loc' := [some (.ref 46), some (.int x1)]) (st' := [(.int x1), (.int v2)]) (I1 := I2) (T1 := T2) rfl ?_
        refine ev_br (p := v2 = x1) (a := 12) (b := 19) (st' := []) inferInstance rfl rfl (fun hb => ?_) (fun hb => ?_)
        · have hq := hq.1 hb
          refine ev_seq 7 (ip' := 24) (loc' := [some (.ref 46), some (.int x1)]) (st' := []) (I1 := m_up I2 46 4 ((I2 46 4) + 1)) (T1 := T2) rfl ?_
          refine ev_fg [false, false] (loc' := [none, none]) rfl ?_
          exact s_M_sign_24 (T := T2) hq
        · have hq := hq.2 hb
          refine ev_seq 4 (ip' := 23) (loc' := [some (.ref 46), some (.int x1)]) (st' := [(.int (I2 46 4)), (.int 1), (.ref 46)]) (I1 := I2) (T1 := T2) rfl ?_
          refine ev_callV rfl rfl rfl (fun I3 T3 hq => ?_) (fun x I1 T1 hq => ?_) hq
          · refine ev_fg [false, false] (loc' := [none, none]) rfl ?_
            exact s_M_sign_24 (T := T3) hq
          · exact ⟨by decide, hq⟩
      · exact ⟨by decide, hq⟩
    · exact ⟨by decide, hq⟩
  · have hq := hq.2 hb
    exact ev_ret rfl rfl hq
/-- FeltHarnessModel.six(IIIIII)I -/
def t_M_six_39 (E : MEnv) (I : II) (T : TT) (Q : QQ) (y0 : Int32) : Prop := Q (.inl (some (.int y0))) I T
theorem s_M_six_39 {E : MEnv} {I : II} {T : TT} {Q : QQ} {y0 : Int32} (hq : t_M_six_39 E I T Q y0) : ev E 64 39 [none, none, none, none, none, none, none] [(.int y0)] I T Q := by
  unfold t_M_six_39 at hq
  exact ev_ret rfl rfl hq
def t_M_six_29 (E : MEnv) (I : II) (T : TT) (Q : QQ) (x5 : Int32) (y0 : Int32) : Prop := (x5 = 0 → (t_M_six_39 E I T Q y0)) ∧ (¬ (x5 = 0) → (t_M_six_39 E I T Q ((27 * y0) + x5)))
theorem s_M_six_29 {E : MEnv} {I : II} {T : TT} {Q : QQ} {x5 : Int32} {y0 : Int32} (hq : t_M_six_29 E I T Q x5 y0) : ev E 64 29 [none, none, none, none, none, some (.int x5), none] [(.int y0)] I T Q := by
  unfold t_M_six_29 at hq
  refine ev_seq 2 (ip' := 31) (loc' := [none, none, none, none, none, some (.int x5), some (.int y0)]) (st' := [(.int x5)]) (I1 := I) (T1 := T) rfl ?_
  refine ev_br (p := x5 = 0) (a := 32) (b := 34) (st' := []) inferInstance rfl rfl (fun hb => ?_) (fun hb => ?_)
  · have hq := hq.1 hb
    refine ev_seq 2 (ip' := 39) (loc' := [none, none, none, none, none, some (.int x5), some (.int y0)]) (st' := [(.int y0)]) (I1 := I) (T1 := T) rfl ?_
    refine ev_fg [true, true, true, true, true, false, false] (loc' := [none, none, none, none, none, none, none]) rfl ?_
    exact s_M_six_39 (T := T) hq
  · have hq := hq.2 hb
    refine ev_seq 5 (ip' := 39) (loc' := [none, none, none, none, none, some (.int x5), some (.int y0)]) (st' := [(.int ((27 * y0) + x5))]) (I1 := I) (T1 := T) rfl ?_
    refine ev_fg [true, true, true, true, true, false, false] (loc' := [none, none, none, none, none, none, none]) rfl ?_
    exact s_M_six_39 (T := T) hq
def t_M_six_19 (E : MEnv) (I : II) (T : TT) (Q : QQ) (x4 : Int32) (x5 : Int32) (y0 : Int32) : Prop := (x4 = 0 → (t_M_six_29 E I T Q x5 y0)) ∧ (¬ (x4 = 0) → (t_M_six_29 E I T Q x5 ((27 * y0) + x4)))
theorem s_M_six_19 {E : MEnv} {I : II} {T : TT} {Q : QQ} {x4 : Int32} {x5 : Int32} {y0 : Int32} (hq : t_M_six_19 E I T Q x4 x5 y0) : ev E 64 19 [none, none, none, none, some (.int x4), some (.int x5), none] [(.int y0)] I T Q := by
  unfold t_M_six_19 at hq
  refine ev_seq 2 (ip' := 21) (loc' := [none, none, none, none, some (.int x4), some (.int x5), some (.int y0)]) (st' := [(.int x4)]) (I1 := I) (T1 := T) rfl ?_
  refine ev_br (p := x4 = 0) (a := 22) (b := 24) (st' := []) inferInstance rfl rfl (fun hb => ?_) (fun hb => ?_)
  · have hq := hq.1 hb
    refine ev_seq 2 (ip' := 29) (loc' := [none, none, none, none, some (.int x4), some (.int x5), some (.int y0)]) (st' := [(.int y0)]) (I1 := I) (T1 := T) rfl ?_
    refine ev_fg [true, true, true, true, false, true, false] (loc' := [none, none, none, none, none, some (.int x5), none]) rfl ?_
    exact s_M_six_29 (T := T) hq
  · have hq := hq.2 hb
    refine ev_seq 5 (ip' := 29) (loc' := [none, none, none, none, some (.int x4), some (.int x5), some (.int y0)]) (st' := [(.int ((27 * y0) + x4))]) (I1 := I) (T1 := T) rfl ?_
    refine ev_fg [true, true, true, true, false, true, false] (loc' := [none, none, none, none, none, some (.int x5), none]) rfl ?_
    exact s_M_six_29 (T := T) hq
def t_M_six_0 (E : MEnv) (I : II) (T : TT) (Q : QQ) (x0 : Int32) (x1 : Int32) (x2 : Int32) (x3 : Int32) (x4 : Int32) (x5 : Int32) : Prop := (x3 = 0 → (t_M_six_19 E I T Q x4 x5 ((27 * ((27 * x0) + x1)) + x2))) ∧ (¬ (x3 = 0) → (t_M_six_19 E I T Q x4 x5 ((27 * ((27 * ((27 * x0) + x1)) + x2)) + x3)))
theorem s_M_six_0 {E : MEnv} {I : II} {T : TT} {Q : QQ} {x0 : Int32} {x1 : Int32} {x2 : Int32} {x3 : Int32} {x4 : Int32} {x5 : Int32} (hq : t_M_six_0 E I T Q x0 x1 x2 x3 x4 x5) : ev E 64 0 [some (.int x0), some (.int x1), some (.int x2), some (.int x3), some (.int x4), some (.int x5), none] [] I T Q := by
  unfold t_M_six_0 at hq
  refine ev_seq 11 (ip' := 11) (loc' := [some (.int x0), some (.int x1), some (.int x2), some (.int x3), some (.int x4), some (.int x5), some (.int ((27 * ((27 * x0) + x1)) + x2))]) (st' := [(.int x3)]) (I1 := I) (T1 := T) rfl ?_
  refine ev_br (p := x3 = 0) (a := 12) (b := 14) (st' := []) inferInstance rfl rfl (fun hb => ?_) (fun hb => ?_)
  · have hq := hq.1 hb
    refine ev_seq 2 (ip' := 19) (loc' := [some (.int x0), some (.int x1), some (.int x2), some (.int x3), some (.int x4), some (.int x5), some (.int ((27 * ((27 * x0) + x1)) + x2))]) (st' := [(.int ((27 * ((27 * x0) + x1)) + x2))]) (I1 := I) (T1 := T) rfl ?_
    refine ev_fg [false, false, false, false, true, true, false] (loc' := [none, none, none, none, some (.int x4), some (.int x5), none]) rfl ?_
    exact s_M_six_19 (T := T) hq
  · have hq := hq.2 hb
    refine ev_seq 5 (ip' := 19) (loc' := [some (.int x0), some (.int x1), some (.int x2), some (.int x3), some (.int x4), some (.int x5), some (.int ((27 * ((27 * x0) + x1)) + x2))]) (st' := [(.int ((27 * ((27 * ((27 * x0) + x1)) + x2)) + x3))]) (I1 := I) (T1 := T) rfl ?_
    refine ev_fg [false, false, false, false, true, true, false] (loc' := [none, none, none, none, some (.int x4), some (.int x5), none]) rfl ?_
    exact s_M_six_19 (T := T) hq
/-- FeltHarnessModel.skipWord()V -/
def t_M_skipWord_0 (E : MEnv) (I : II) (T : TT) (Q : QQ) : Prop := ev E 61 0 [some (.ref 46), some (.int (I 46 4))] [] I T (KI (fun v1 I1 T1 => ev E 66 0 [some (.int v1)] [] I1 T1 (KI (fun v2 I2 T2 => (v2 = 0 → (Q (.inl none) I2 T2)) ∧ (¬ (v2 = 0) → (ev E 70 0 [some (.ref 46)] [] (m_up I2 46 4 ((I2 46 4) + 1)) T2 Q))) (fun _ _ _ => False))) (fun x I1 T1 => Q (.inr x) I1 T1))
theorem s_M_skipWord_0 {E : MEnv} {I : II} {T : TT} {Q : QQ} (hq : t_M_skipWord_0 E I T Q) : ev E 70 0 [some (.ref 46)] [] I T Q := by
  unfold t_M_skipWord_0 at hq
  refine ev_seq 3 (ip' := 3) (loc' := [some (.ref 46)]) (st' := [(.int (I 46 4)), (.ref 46)]) (I1 := I) (T1 := T) rfl ?_
  refine ev_callI rfl rfl rfl (fun v1 I1 T1 hq => ?_) (fun x I1 T1 hq => ?_) hq
  · refine ev_callI rfl rfl rfl (fun v2 I2 T2 hq => ?_) (fun x I1 T1 hq => ?_) hq
    · refine ev_br (p := v2 = 0) (a := 13) (b := 6) (st' := []) inferInstance rfl rfl (fun hb => ?_) (fun hb => ?_)
      · have hq := hq.1 hb
        exact ev_ret rfl rfl hq
      · have hq := hq.2 hb
        refine ev_seq 7 (ip' := 0) (loc' := [some (.ref 46)]) (st' := []) (I1 := m_up I2 46 4 ((I2 46 4) + 1)) (T1 := T2) rfl ?_
        exact hq
    · exact hq.elim
  · exact ⟨by decide, hq⟩
/-- FeltHarnessModel.span(IIIIII)I -/
def t_M_span_98 (E : MEnv) (I : II) (T : TT) (Q : QQ) (y0 : Int32) : Prop := Q (.inl (some (.int y0))) I T
theorem s_M_span_98 {E : MEnv} {I : II} {T : TT} {Q : QQ} {y0 : Int32} (hq : t_M_span_98 E I T Q y0) : ev E 323 98 [none, none, none, none, none, none, none, none, none, none, none, none] [(.int y0)] I T Q := by
  unfold t_M_span_98 at hq
  exact ev_ret rfl rfl hq
def t_M_span_84 (E : MEnv) (I : II) (T : TT) (Q : QQ) (x1 : Int32) (x2 : Int32) (x3 : Int32) (x4 : Int32) (x5 : Int32) (x6 : Int32) (x7 : Int32) (x8 : Int32) (x10 : Int32) (y0 : Int32) (y1 : Int32) : Prop := ev E 323 39 [some (.ref 46), some (.int x1), some (.int x2), some (.int x3), some (.int x4), some (.int x5), some (.int x6), some (.int x7), some (.int x8), some (.int (y0 + y1)), some (.int (x10 + 1)), none] [] I T Q
theorem s_M_span_84 {E : MEnv} {I : II} {T : TT} {Q : QQ} {x1 : Int32} {x2 : Int32} {x3 : Int32} {x4 : Int32} {x5 : Int32} {x6 : Int32} {x7 : Int32} {x8 : Int32} {x10 : Int32} {y0 : Int32} {y1 : Int32} (hq : t_M_span_84 E I T Q x1 x2 x3 x4 x5 x6 x7 x8 x10 y0 y1) : ev E 323 84 [some (.ref 46), some (.int x1), some (.int x2), some (.int x3), some (.int x4), some (.int x5), some (.int x6), some (.int x7), some (.int x8), none, some (.int x10), none] [(.int y1), (.int y0)] I T Q := by
  unfold t_M_span_84 at hq
  refine ev_seq 4 (ip' := 39) (loc' := [some (.ref 46), some (.int x1), some (.int x2), some (.int x3), some (.int x4), some (.int x5), some (.int x6), some (.int x7), some (.int x8), some (.int (y0 + y1)), some (.int (x10 + 1)), none]) (st' := []) (I1 := I) (T1 := T) rfl ?_
  exact hq
def t_M_span_67 (E : MEnv) (I : II) (T : TT) (Q : QQ) (x1 : Int32) (x2 : Int32) (x3 : Int32) (x4 : Int32) (x5 : Int32) (x6 : Int32) (x8 : Int32) (x9 : Int32) (x10 : Int32) (x11 : Int32) (y0 : Int32) : Prop := ev E 163 0 [some (.int x8), some (.int x11)] [] I T (KI (fun v1 I1 T1 => (¬ (0 + x6) < 0 ∧ (0 + x6).toNatClampNeg < 29) ∧ (((I1 509 (0 + x6).toNatClampNeg) = (-1) → (t_M_span_84 E I1 T1 Q x1 x2 x3 x4 x5 x6 y0 v1 x10 x9 0)) ∧ (¬ ((I1 509 (0 + x6).toNatClampNeg) = (-1)) → (t_M_span_84 E I1 T1 Q x1 x2 x3 x4 x5 x6 y0 v1 x10 x9 1)))) (fun _ _ _ => False))
theorem s_M_span_67 {E : MEnv} {I : II} {T : TT} {Q : QQ} {x1 : Int32} {x2 : Int32} {x3 : Int32} {x4 : Int32} {x5 : Int32} {x6 : Int32} {x8 : Int32} {x9 : Int32} {x10 : Int32} {x11 : Int32} {y0 : Int32} (hq : t_M_span_67 E I T Q x1 x2 x3 x4 x5 x6 x8 x9 x10 x11 y0) : ev E 323 67 [some (.ref 46), some (.int x1), some (.int x2), some (.int x3), some (.int x4), some (.int x5), some (.int x6), none, some (.int x8), some (.int x9), some (.int x10), some (.int x11)] [(.int y0)] I T Q := by
  unfold t_M_span_67 at hq
  refine ev_seq 3 (ip' := 70) (loc' := [some (.ref 46), some (.int x1), some (.int x2), some (.int x3), some (.int x4), some (.int x5), some (.int x6), some (.int y0), some (.int x8), some (.int x9), some (.int x10), some (.int x11)]) (st' := [(.int x11), (.int x8)]) (I1 := I) (T1 := T) rfl ?_
  refine ev_callI rfl rfl rfl (fun v1 I1 T1 hq => ?_) (fun x I1 T1 hq => ?_) hq
  · refine ev_seq 7 (ip' := 78) (loc' := [some (.ref 46), some (.int x1), some (.int x2), some (.int x3), some (.int x4), some (.int x5), some (.int x6), some (.int y0), some (.int v1), some (.int x9), some (.int x10), some (.int x11)]) (st' := [(.int (0 + x6)), (.ref 509), (.int x9)]) (I1 := I1) (T1 := T1) rfl ?_
    obtain ⟨hg, hq⟩ := hq
    refine ev_iald rfl rfl hg ?_
    refine ev_seq 1 (ip' := 80) (loc' := [some (.ref 46), some (.int x1), some (.int x2), some (.int x3), some (.int x4), some (.int x5), some (.int x6), some (.int y0), some (.int v1), some (.int x9), some (.int x10), some (.int x11)]) (st' := [(.int (-1)), (.int (I1 509 (0 + x6).toNatClampNeg)), (.int x9)]) (I1 := I1) (T1 := T1) rfl ?_
    refine ev_br (p := (I1 509 (0 + x6).toNatClampNeg) = (-1)) (a := 81) (b := 83) (st' := [(.int x9)]) inferInstance rfl rfl (fun hb => ?_) (fun hb => ?_)
    · have hq := hq.1 hb
      refine ev_seq 2 (ip' := 84) (loc' := [some (.ref 46), some (.int x1), some (.int x2), some (.int x3), some (.int x4), some (.int x5), some (.int x6), some (.int y0), some (.int v1), some (.int x9), some (.int x10), some (.int x11)]) (st' := [(.int 0), (.int x9)]) (I1 := I1) (T1 := T1) rfl ?_
      refine ev_fg [true, true, true, true, true, true, true, true, true, false, true, false] (loc' := [some (.ref 46), some (.int x1), some (.int x2), some (.int x3), some (.int x4), some (.int x5), some (.int x6), some (.int y0), some (.int v1), none, some (.int x10), none]) rfl ?_
      exact s_M_span_84 (T := T1) hq
    · have hq := hq.2 hb
      refine ev_seq 1 (ip' := 84) (loc' := [some (.ref 46), some (.int x1), some (.int x2), some (.int x3), some (.int x4), some (.int x5), some (.int x6), some (.int y0), some (.int v1), some (.int x9), some (.int x10), some (.int x11)]) (st' := [(.int 1), (.int x9)]) (I1 := I1) (T1 := T1) rfl ?_
      refine ev_fg [true, true, true, true, true, true, true, true, true, false, true, false] (loc' := [some (.ref 46), some (.int x1), some (.int x2), some (.int x3), some (.int x4), some (.int x5), some (.int x6), some (.int y0), some (.int v1), none, some (.int x10), none]) rfl ?_
      exact s_M_span_84 (T := T1) hq
  · exact hq.elim
def t_M_span_39 (E : MEnv) (I : II) (T : TT) (Q : QQ) (x1 : Int32) (x2 : Int32) (x3 : Int32) (x4 : Int32) (x5 : Int32) (x6 : Int32) (x7 : Int32) (x8 : Int32) (x9 : Int32) (x10 : Int32) : Prop := (x2 ≤ x10 → ((x5 = 0 → (t_M_span_98 E I T Q x7)) ∧ (¬ (x5 = 0) → ((x5 = 1 → (t_M_span_98 E I T Q x8)) ∧ (¬ (x5 = 1) → (t_M_span_98 E I T Q x9)))))) ∧ (¬ (x2 ≤ x10) → (ev E 319 0 [some (.ref 46), some (.int (x1 + x10)), some (.int x3), some (.int x4), none, none, none] [] I T (KV (fun I1 T1 => (x7 = (-1) → (t_M_span_67 E I1 T1 Q x1 x2 x3 x4 x5 x6 x8 x9 x10 ((I1 509 26) - (I1 508 26)) ((I1 509 26) - (I1 508 26)))) ∧ (¬ (x7 = (-1)) → (ev E 162 0 [some (.int x7), some (.int ((I1 509 26) - (I1 508 26)))] [] I1 T1 (KI (fun v2 I2 T2 => t_M_span_67 E I2 T2 Q x1 x2 x3 x4 x5 x6 x8 x9 x10 ((I1 509 26) - (I1 508 26)) v2) (fun _ _ _ => False))))) (fun x I1 T1 => Q (.inr x) I1 T1))))
theorem s_M_span_39 {E : MEnv} {I : II} {T : TT} {Q : QQ} {x1 : Int32} {x2 : Int32} {x3 : Int32} {x4 : Int32} {x5 : Int32} {x6 : Int32} {x7 : Int32} {x8 : Int32} {x9 : Int32} {x10 : Int32} (hq : t_M_span_39 E I T Q x1 x2 x3 x4 x5 x6 x7 x8 x9 x10) : ev E 323 39 [some (.ref 46), some (.int x1), some (.int x2), some (.int x3), some (.int x4), some (.int x5), some (.int x6), some (.int x7), some (.int x8), some (.int x9), some (.int x10), none] [] I T Q := by
  unfold t_M_span_39 at hq
  refine ev_seq 2 (ip' := 41) (loc' := [some (.ref 46), some (.int x1), some (.int x2), some (.int x3), some (.int x4), some (.int x5), some (.int x6), some (.int x7), some (.int x8), some (.int x9), some (.int x10), none]) (st' := [(.int x2), (.int x10)]) (I1 := I) (T1 := T) rfl ?_
  refine ev_br (p := x2 ≤ x10) (a := 88) (b := 42) (st' := []) inferInstance rfl rfl (fun hb => ?_) (fun hb => ?_)
  · have hq := hq.1 hb
    refine ev_seq 1 (ip' := 89) (loc' := [some (.ref 46), some (.int x1), some (.int x2), some (.int x3), some (.int x4), some (.int x5), some (.int x6), some (.int x7), some (.int x8), some (.int x9), some (.int x10), none]) (st' := [(.int x5)]) (I1 := I) (T1 := T) rfl ?_
    refine ev_br (p := x5 = 0) (a := 90) (b := 92) (st' := []) inferInstance rfl rfl (fun hb => ?_) (fun hb => ?_)
    · have hq := hq.1 hb
      refine ev_seq 2 (ip' := 98) (loc' := [some (.ref 46), some (.int x1), some (.int x2), some (.int x3), some (.int x4), some (.int x5), some (.int x6), some (.int x7), some (.int x8), some (.int x9), some (.int x10), none]) (st' := [(.int x7)]) (I1 := I) (T1 := T) rfl ?_
      refine ev_fg [false, false, false, false, false, false, false, false, false, false, false, true] (loc' := [none, none, none, none, none, none, none, none, none, none, none, none]) rfl ?_
      exact s_M_span_98 (T := T) hq
    · have hq := hq.2 hb
      refine ev_seq 2 (ip' := 94) (loc' := [some (.ref 46), some (.int x1), some (.int x2), some (.int x3), some (.int x4), some (.int x5), some (.int x6), some (.int x7), some (.int x8), some (.int x9), some (.int x10), none]) (st' := [(.int 1), (.int x5)]) (I1 := I) (T1 := T) rfl ?_
      refine ev_br (p := x5 = 1) (a := 95) (b := 97) (st' := []) inferInstance rfl rfl (fun hb => ?_) (fun hb => ?_)
      · have hq := hq.1 hb
        refine ev_seq 2 (ip' := 98) (loc' := [some (.ref 46), some (.int x1), some (.int x2), some (.int x3), some (.int x4), some (.int x5), some (.int x6), some (.int x7), some (.int x8), some (.int x9), some (.int x10), none]) (st' := [(.int x8)]) (I1 := I) (T1 := T) rfl ?_
        refine ev_fg [false, false, false, false, false, false, false, false, false, false, false, true] (loc' := [none, none, none, none, none, none, none, none, none, none, none, none]) rfl ?_
        exact s_M_span_98 (T := T) hq
      · have hq := hq.2 hb
        refine ev_seq 1 (ip' := 98) (loc' := [some (.ref 46), some (.int x1), some (.int x2), some (.int x3), some (.int x4), some (.int x5), some (.int x6), some (.int x7), some (.int x8), some (.int x9), some (.int x10), none]) (st' := [(.int x9)]) (I1 := I) (T1 := T) rfl ?_
        refine ev_fg [false, false, false, false, false, false, false, false, false, false, false, true] (loc' := [none, none, none, none, none, none, none, none, none, none, none, none]) rfl ?_
        exact s_M_span_98 (T := T) hq
  · have hq := hq.2 hb
    refine ev_seq 6 (ip' := 48) (loc' := [some (.ref 46), some (.int x1), some (.int x2), some (.int x3), some (.int x4), some (.int x5), some (.int x6), some (.int x7), some (.int x8), some (.int x9), some (.int x10), none]) (st' := [(.int x4), (.int x3), (.int (x1 + x10)), (.ref 46)]) (I1 := I) (T1 := T) rfl ?_
    refine ev_callV rfl rfl rfl (fun I1 T1 hq => ?_) (fun x I1 T1 hq => ?_) hq
    · refine ev_seq 12 (ip' := 61) (loc' := [some (.ref 46), some (.int x1), some (.int x2), some (.int x3), some (.int x4), some (.int x5), some (.int x6), some (.int x7), some (.int x8), some (.int x9), some (.int x10), some (.int ((I1 509 26) - (I1 508 26)))]) (st' := [(.int (-1)), (.int x7)]) (I1 := I1) (T1 := T1) rfl ?_
      refine ev_br (p := x7 = (-1)) (a := 62) (b := 64) (st' := []) inferInstance rfl rfl (fun hb => ?_) (fun hb => ?_)
      · have hq := hq.1 hb
        refine ev_seq 2 (ip' := 67) (loc' := [some (.ref 46), some (.int x1), some (.int x2), some (.int x3), some (.int x4), some (.int x5), some (.int x6), some (.int x7), some (.int x8), some (.int x9), some (.int x10), some (.int ((I1 509 26) - (I1 508 26)))]) (st' := [(.int ((I1 509 26) - (I1 508 26)))]) (I1 := I1) (T1 := T1) rfl ?_
        refine ev_fg [true, true, true, true, true, true, true, false, true, true, true, true] (loc' := [some (.ref 46), some (.int x1), some (.int x2), some (.int x3), some (.int x4), some (.int x5), some (.int x6), none, some (.int x8), some (.int x9), some (.int x10), some (.int ((I1 509 26) - (I1 508 26)))]) rfl ?_
        exact s_M_span_67 (T := T1) hq
      · have hq := hq.2 hb
        refine ev_seq 2 (ip' := 66) (loc' := [some (.ref 46), some (.int x1), some (.int x2), some (.int x3), some (.int x4), some (.int x5), some (.int x6), some (.int x7), some (.int x8), some (.int x9), some (.int x10), some (.int ((I1 509 26) - (I1 508 26)))]) (st' := [(.int ((I1 509 26) - (I1 508 26))), (.int x7)]) (I1 := I1) (T1 := T1) rfl ?_
        refine ev_callI rfl rfl rfl (fun v2 I2 T2 hq => ?_) (fun x I1 T1 hq => ?_) hq
        · refine ev_fg [true, true, true, true, true, true, true, false, true, true, true, true] (loc' := [some (.ref 46), some (.int x1), some (.int x2), some (.int x3), some (.int x4), some (.int x5), some (.int x6), none, some (.int x8), some (.int x9), some (.int x10), some (.int ((I1 509 26) - (I1 508 26)))]) rfl ?_
          exact s_M_span_67 (T := T2) hq
        · exact hq.elim
    · exact ⟨by decide, hq⟩
def t_M_span_25 (E : MEnv) (I : II) (T : TT) (Q : QQ) (x1 : Int32) (x2 : Int32) (x3 : Int32) (x4 : Int32) (x5 : Int32) (x6 : Int32) (y1 : Int32) : Prop := ev E 58 0 [some (.ref 46), some (.int y1), some (.int 1), some (.int 1)] [] I T (KI (fun v1 I1 T1 => (v1 = 0 → (t_M_span_39 E I1 T1 Q x1 x2 x3 x4 x5 x6 (-1) 0 0 0)) ∧ (¬ (v1 = 0) → (Q (.inl (some (.int 0))) I1 T1))) (fun x I1 T1 => Q (.inr x) I1 T1))
theorem s_M_span_25 {E : MEnv} {I : II} {T : TT} {Q : QQ} {x1 : Int32} {x2 : Int32} {x3 : Int32} {x4 : Int32} {x5 : Int32} {x6 : Int32} {y1 : Int32} (hq : t_M_span_25 E I T Q x1 x2 x3 x4 x5 x6 y1) : ev E 323 25 [some (.ref 46), some (.int x1), some (.int x2), some (.int x3), some (.int x4), some (.int x5), some (.int x6), none, none, none, none, none] [(.int y1), (.ref 46)] I T Q := by
  unfold t_M_span_25 at hq
  refine ev_seq 2 (ip' := 27) (loc' := [some (.ref 46), some (.int x1), some (.int x2), some (.int x3), some (.int x4), some (.int x5), some (.int x6), none, none, none, none, none]) (st' := [(.int 1), (.int 1), (.int y1), (.ref 46)]) (I1 := I) (T1 := T) rfl ?_
  refine ev_callI rfl rfl rfl (fun v1 I1 T1 hq => ?_) (fun x I1 T1 hq => ?_) hq
  · refine ev_br (p := v1 = 0) (a := 31) (b := 29) (st' := []) inferInstance rfl rfl (fun hb => ?_) (fun hb => ?_)
    · have hq := hq.1 hb
      refine ev_seq 8 (ip' := 39) (loc' := [some (.ref 46), some (.int x1), some (.int x2), some (.int x3), some (.int x4), some (.int x5), some (.int x6), some (.int (-1)), some (.int 0), some (.int 0), some (.int 0), none]) (st' := []) (I1 := I1) (T1 := T1) rfl ?_
      exact s_M_span_39 (T := T1) hq
    · have hq := hq.2 hb
      refine ev_seq 1 (ip' := 30) (loc' := [some (.ref 46), some (.int x1), some (.int x2), some (.int x3), some (.int x4), some (.int x5), some (.int x6), none, none, none, none, none]) (st' := [(.int 0)]) (I1 := I1) (T1 := T1) rfl ?_
      exact ev_ret rfl rfl hq
  · exact ⟨by decide, hq⟩
def t_M_span_22 (E : MEnv) (I : II) (T : TT) (Q : QQ) (x1 : Int32) (x2 : Int32) (x3 : Int32) (x4 : Int32) (x5 : Int32) (x6 : Int32) : Prop := t_M_span_25 E I T Q x1 x2 x3 x4 x5 x6 1
theorem s_M_span_22 {E : MEnv} {I : II} {T : TT} {Q : QQ} {x1 : Int32} {x2 : Int32} {x3 : Int32} {x4 : Int32} {x5 : Int32} {x6 : Int32} (hq : t_M_span_22 E I T Q x1 x2 x3 x4 x5 x6) : ev E 323 22 [some (.ref 46), some (.int x1), some (.int x2), some (.int x3), some (.int x4), some (.int x5), some (.int x6), none, none, none, none, none] [(.ref 46)] I T Q := by
  unfold t_M_span_22 at hq
  refine ev_seq 2 (ip' := 25) (loc' := [some (.ref 46), some (.int x1), some (.int x2), some (.int x3), some (.int x4), some (.int x5), some (.int x6), none, none, none, none, none]) (st' := [(.int 1), (.ref 46)]) (I1 := I) (T1 := T) rfl ?_
  exact s_M_span_25 (T := T) hq
def t_M_span_0 (E : MEnv) (I : II) (T : TT) (Q : QQ) (x1 : Int32) (x2 : Int32) (x3 : Int32) (x4 : Int32) (x5 : Int32) (x6 : Int32) : Prop := ev E 57 0 [some (.int x2), some (.int 1), some (.int 20)] [] (m_up I 46 0 0) T (KI (fun v1 I1 T1 => (v1 = 0 → (t_M_span_22 E I1 T1 Q x1 x2 x3 x4 x5 x6)) ∧ (¬ (v1 = 0) → (ev E 318 0 [some (.int x3), some (.int x4)] [] I1 T1 (KI (fun v2 I2 T2 => (v2 = 0 → (t_M_span_22 E I2 T2 Q x1 x2 x3 x4 x5 x6)) ∧ (¬ (v2 = 0) → (ev E 57 0 [some (.int x5), some (.int 0), some (.int 2)] [] I2 T2 (KI (fun v3 I3 T3 => (v3 = 0 → (t_M_span_22 E I3 T3 Q x1 x2 x3 x4 x5 x6)) ∧ (¬ (v3 = 0) → (ev E 190 0 [some (.ref 46), some (.int x6)] [] I3 T3 (KI (fun v4 I4 T4 => (v4 = 0 → (t_M_span_22 E I4 T4 Q x1 x2 x3 x4 x5 x6)) ∧ (¬ (v4 = 0) → (t_M_span_25 E I4 T4 Q x1 x2 x3 x4 x5 x6 0))) (fun x I1 T1 => Q (.inr x) I1 T1))))) (fun _ _ _ => False))))) (fun _ _ _ => False))))) (fun _ _ _ => False))
theorem s_M_span_0 {E : MEnv} {I : II} {T : TT} {Q : QQ} {x1 : Int32} {x2 : Int32} {x3 : Int32} {x4 : Int32} {x5 : Int32} {x6 : Int32} (hq : t_M_span_0 E I T Q x1 x2 x3 x4 x5 x6) : ev E 323 0 [some (.ref 46), some (.int x1), some (.int x2), some (.int x3), some (.int x4), some (.int x5), some (.int x6), none, none, none, none, none] [] I T Q := by
  unfold t_M_span_0 at hq
  refine ev_seq 7 (ip' := 7) (loc' := [some (.ref 46), some (.int x1), some (.int x2), some (.int x3), some (.int x4), some (.int x5), some (.int x6), none, none, none, none, none]) (st' := [(.int 20), (.int 1), (.int x2), (.ref 46)]) (I1 := m_up I 46 0 0) (T1 := T) rfl ?_
  refine ev_callI rfl rfl rfl (fun v1 I1 T1 hq => ?_) (fun x I1 T1 hq => ?_) hq
  · refine ev_br (p := v1 = 0) (a := 22) (b := 9) (st' := [(.ref 46)]) inferInstance rfl rfl (fun hb => ?_) (fun hb => ?_)
    · have hq := hq.1 hb
      exact s_M_span_22 (T := T1) hq
    · have hq := hq.2 hb
      refine ev_seq 2 (ip' := 11) (loc' := [some (.ref 46), some (.int x1), some (.int x2), some (.int x3), some (.int x4), some (.int x5), some (.int x6), none, none, none, none, none]) (st' := [(.int x4), (.int x3), (.ref 46)]) (I1 := I1) (T1 := T1) rfl ?_
      refine ev_callI rfl rfl rfl (fun v2 I2 T2 hq => ?_) (fun x I1 T1 hq => ?_) hq
      · refine ev_br (p := v2 = 0) (a := 22) (b := 13) (st' := [(.ref 46)]) inferInstance rfl rfl (fun hb => ?_) (fun hb => ?_)
        · have hq := hq.1 hb
          exact s_M_span_22 (T := T2) hq
        · have hq := hq.2 hb
          refine ev_seq 3 (ip' := 16) (loc' := [some (.ref 46), some (.int x1), some (.int x2), some (.int x3), some (.int x4), some (.int x5), some (.int x6), none, none, none, none, none]) (st' := [(.int 2), (.int 0), (.int x5), (.ref 46)]) (I1 := I2) (T1 := T2) rfl ?_
          refine ev_callI rfl rfl rfl (fun v3 I3 T3 hq => ?_) (fun x I1 T1 hq => ?_) hq
          · refine ev_br (p := v3 = 0) (a := 22) (b := 18) (st' := [(.ref 46)]) inferInstance rfl rfl (fun hb => ?_) (fun hb => ?_)
            · have hq := hq.1 hb
              exact s_M_span_22 (T := T3) hq
            · have hq := hq.2 hb
              refine ev_seq 2 (ip' := 20) (loc' := [some (.ref 46), some (.int x1), some (.int x2), some (.int x3), some (.int x4), some (.int x5), some (.int x6), none, none, none, none, none]) (st' := [(.int x6), (.ref 46), (.ref 46)]) (I1 := I3) (T1 := T3) rfl ?_
              refine ev_callI rfl rfl rfl (fun v4 I4 T4 hq => ?_) (fun x I1 T1 hq => ?_) hq
              · refine ev_br (p := v4 = 0) (a := 22) (b := 24) (st' := [(.ref 46)]) inferInstance rfl rfl (fun hb => ?_) (fun hb => ?_)
                · have hq := hq.1 hb
                  exact s_M_span_22 (T := T4) hq
                · have hq := hq.2 hb
                  refine ev_seq 1 (ip' := 25) (loc' := [some (.ref 46), some (.int x1), some (.int x2), some (.int x3), some (.int x4), some (.int x5), some (.int x6), none, none, none, none, none]) (st' := [(.int 0), (.ref 46)]) (I1 := I4) (T1 := T4) rfl ?_
                  exact s_M_span_25 (T := T4) hq
              · exact ⟨by decide, hq⟩
          · exact hq.elim
      · exact hq.elim
  · exact hq.elim
/-- FeltHarnessModel.stable(II)Z -/
def t_M_stable_58 (d9 : Nat) (X9 : Nat × (Nat → Int32)) (I : II) (T : TT) (Q : QQ) (x1 : Int32) (x2 : Int32) (x3 : Int32) : Prop := ev (d9 + 1, X9) 238 10 [some (.ref 46), some (.int x1), some (.int x2), some (.int (x3 + 1)), none, none] [] I T Q
theorem s_M_stable_58 {d9 : Nat} {X9 : Nat × (Nat → Int32)} {I : II} {T : TT} {Q : QQ} {x1 : Int32} {x2 : Int32} {x3 : Int32} (hq : t_M_stable_58 d9 X9 I T Q x1 x2 x3) : ev (d9 + 1, X9) 238 58 [some (.ref 46), some (.int x1), some (.int x2), some (.int x3), none, none] [] I T Q := by
  unfold t_M_stable_58 at hq
  refine ev_seq 2 (ip' := 10) (loc' := [some (.ref 46), some (.int x1), some (.int x2), some (.int (x3 + 1)), none, none]) (st' := []) (I1 := I) (T1 := T) rfl ?_
  exact hq
def t_M_stable_37 (d9 : Nat) (X9 : Nat × (Nat → Int32)) (I : II) (T : TT) (Q : QQ) (x1 : Int32) (x2 : Int32) (x3 : Int32) (x5 : Int32) (y0 : Int32) (y1 : Int32) : Prop := ev (d9 + 1, X9) 238 17 [some (.ref 46), some (.int x1), some (.int x2), some (.int x3), some (.int (y0 &&& y1)), some (.int (x5 + 1))] [] I T Q
theorem s_M_stable_37 {d9 : Nat} {X9 : Nat × (Nat → Int32)} {I : II} {T : TT} {Q : QQ} {x1 : Int32} {x2 : Int32} {x3 : Int32} {x5 : Int32} {y0 : Int32} {y1 : Int32} (hq : t_M_stable_37 d9 X9 I T Q x1 x2 x3 x5 y0 y1) : ev (d9 + 1, X9) 238 37 [some (.ref 46), some (.int x1), some (.int x2), some (.int x3), none, some (.int x5)] [(.int y1), (.int y0)] I T Q := by
  unfold t_M_stable_37 at hq
  refine ev_seq 4 (ip' := 17) (loc' := [some (.ref 46), some (.int x1), some (.int x2), some (.int x3), some (.int (y0 &&& y1)), some (.int (x5 + 1))]) (st' := []) (I1 := I) (T1 := T) rfl ?_
  exact hq
def t_M_stable_34 (d9 : Nat) (X9 : Nat × (Nat → Int32)) (I : II) (T : TT) (Q : QQ) (x1 : Int32) (x2 : Int32) (x3 : Int32) (x5 : Int32) (y0 : Int32) : Prop := t_M_stable_37 d9 X9 I T Q x1 x2 x3 x5 y0 1
theorem s_M_stable_34 {d9 : Nat} {X9 : Nat × (Nat → Int32)} {I : II} {T : TT} {Q : QQ} {x1 : Int32} {x2 : Int32} {x3 : Int32} {x5 : Int32} {y0 : Int32} (hq : t_M_stable_34 d9 X9 I T Q x1 x2 x3 x5 y0) : ev (d9 + 1, X9) 238 34 [some (.ref 46), some (.int x1), some (.int x2), some (.int x3), none, some (.int x5)] [(.int y0)] I T Q := by
  unfold t_M_stable_34 at hq
  refine ev_seq 2 (ip' := 37) (loc' := [some (.ref 46), some (.int x1), some (.int x2), some (.int x3), none, some (.int x5)]) (st' := [(.int 1), (.int y0)]) (I1 := I) (T1 := T) rfl ?_
  exact s_M_stable_37 (T := T) hq
def t_M_stable_17 (d9 : Nat) (X9 : Nat × (Nat → Int32)) (I : II) (T : TT) (Q : QQ) (x1 : Int32) (x2 : Int32) (x3 : Int32) (x4 : Int32) (x5 : Int32) : Prop := (x1 ≤ x5 → ((x4 = 0 → (t_M_stable_58 d9 X9 I T Q x1 x2 x3)) ∧ (¬ (x4 = 0) → ((¬ x1 < 0 ∧ x1.toNatClampNeg < 8) ∧ (ev (d9, X9) 238 0 [some (.ref 46), some (.int (x1 + 1)), some (.int x2), none, none, none] [] (m_up I 533 x1.toNatClampNeg x3) T (KI (fun v1 I1 T1 => (v1 = 0 → (t_M_stable_58 d9 X9 I1 T1 Q x1 x2 x3)) ∧ (¬ (v1 = 0) → (Q (.inl (some (.int 1))) I1 T1))) (fun x I1 T1 => Q (.inr x) I1 T1))))))) ∧ (¬ (x1 ≤ x5) → ((¬ x5 < 0 ∧ x5.toNatClampNeg < 8) ∧ (((I 533 x5.toNatClampNeg) = x3 → ((¬ x1 < 0 ∧ x1.toNatClampNeg < 8) ∧ (ev (d9 + 1, X9) 166 0 [some (.int (I 84 x1.toNatClampNeg)), some (.int x5)] [] I T (KI (fun v2 I2 T2 => (v2 = 0 → (t_M_stable_34 d9 X9 I2 T2 Q x1 x2 x3 x5 x4)) ∧ (¬ (v2 = 0) → (t_M_stable_37 d9 X9 I2 T2 Q x1 x2 x3 x5 x4 0))) (fun _ _ _ => False))))) ∧ (¬ ((I 533 x5.toNatClampNeg) = x3) → (t_M_stable_34 d9 X9 I T Q x1 x2 x3 x5 x4)))))
theorem s_M_stable_17 {d9 : Nat} {X9 : Nat × (Nat → Int32)} {I : II} {T : TT} {Q : QQ} {x1 : Int32} {x2 : Int32} {x3 : Int32} {x4 : Int32} {x5 : Int32} (hq : t_M_stable_17 d9 X9 I T Q x1 x2 x3 x4 x5) : ev (d9 + 1, X9) 238 17 [some (.ref 46), some (.int x1), some (.int x2), some (.int x3), some (.int x4), some (.int x5)] [] I T Q := by
  unfold t_M_stable_17 at hq
  refine ev_seq 2 (ip' := 19) (loc' := [some (.ref 46), some (.int x1), some (.int x2), some (.int x3), some (.int x4), some (.int x5)]) (st' := [(.int x1), (.int x5)]) (I1 := I) (T1 := T) rfl ?_
  refine ev_br (p := x1 ≤ x5) (a := 41) (b := 20) (st' := []) inferInstance rfl rfl (fun hb => ?_) (fun hb => ?_)
  · have hq := hq.1 hb
    refine ev_seq 1 (ip' := 42) (loc' := [some (.ref 46), some (.int x1), some (.int x2), some (.int x3), some (.int x4), some (.int x5)]) (st' := [(.int x4)]) (I1 := I) (T1 := T) rfl ?_
    refine ev_br (p := x4 = 0) (a := 43) (b := 44) (st' := []) inferInstance rfl rfl (fun hb => ?_) (fun hb => ?_)
    · have hq := hq.1 hb
      refine ev_seq 1 (ip' := 58) (loc' := [some (.ref 46), some (.int x1), some (.int x2), some (.int x3), some (.int x4), some (.int x5)]) (st' := []) (I1 := I) (T1 := T) rfl ?_
      refine ev_fg [true, true, true, true, false, false] (loc' := [some (.ref 46), some (.int x1), some (.int x2), some (.int x3), none, none]) rfl ?_
      exact s_M_stable_58 (T := T) hq
    · have hq := hq.2 hb
      refine ev_seq 4 (ip' := 48) (loc' := [some (.ref 46), some (.int x1), some (.int x2), some (.int x3), some (.int x4), some (.int x5)]) (st' := [(.int x3), (.int x1), (.ref 533)]) (I1 := I) (T1 := T) rfl ?_
      obtain ⟨hg, hq⟩ := hq
      refine ev_iast rfl rfl hg ?_
      refine ev_seq 5 (ip' := 54) (loc' := [some (.ref 46), some (.int x1), some (.int x2), some (.int x3), some (.int x4), some (.int x5)]) (st' := [(.int x2), (.int (x1 + 1)), (.ref 46)]) (I1 := m_up I 533 x1.toNatClampNeg x3) (T1 := T) rfl ?_
      refine ev_callI rfl rfl rfl (fun v1 I1 T1 hq => ?_) (fun x I1 T1 hq => ?_) hq
      · refine ev_br (p := v1 = 0) (a := 58) (b := 56) (st' := []) inferInstance rfl rfl (fun hb => ?_) (fun hb => ?_)
        · have hq := hq.1 hb
          refine ev_fg [true, true, true, true, false, false] (loc' := [some (.ref 46), some (.int x1), some (.int x2), some (.int x3), none, none]) rfl ?_
          exact s_M_stable_58 (T := T1) hq
        · have hq := hq.2 hb
          refine ev_seq 1 (ip' := 57) (loc' := [some (.ref 46), some (.int x1), some (.int x2), some (.int x3), some (.int x4), some (.int x5)]) (st' := [(.int 1)]) (I1 := I1) (T1 := T1) rfl ?_
          exact ev_ret rfl rfl hq
      · exact ⟨by decide, hq⟩
  · have hq := hq.2 hb
    refine ev_seq 4 (ip' := 24) (loc' := [some (.ref 46), some (.int x1), some (.int x2), some (.int x3), some (.int x4), some (.int x5)]) (st' := [(.int x5), (.ref 533), (.int x4)]) (I1 := I) (T1 := T) rfl ?_
    obtain ⟨hg, hq⟩ := hq
    refine ev_iald rfl rfl hg ?_
    refine ev_seq 1 (ip' := 26) (loc' := [some (.ref 46), some (.int x1), some (.int x2), some (.int x3), some (.int x4), some (.int x5)]) (st' := [(.int x3), (.int (I 533 x5.toNatClampNeg)), (.int x4)]) (I1 := I) (T1 := T) rfl ?_
    refine ev_br (p := (I 533 x5.toNatClampNeg) = x3) (a := 27) (b := 34) (st' := [(.int x4)]) inferInstance rfl rfl (fun hb => ?_) (fun hb => ?_)
    · have hq := hq.1 hb
      refine ev_seq 3 (ip' := 30) (loc' := [some (.ref 46), some (.int x1), some (.int x2), some (.int x3), some (.int x4), some (.int x5)]) (st' := [(.int x1), (.ref 84), (.int x4)]) (I1 := I) (T1 := T) rfl ?_
      obtain ⟨hg, hq⟩ := hq
      refine ev_iald rfl rfl hg ?_
      refine ev_seq 1 (ip' := 32) (loc' := [some (.ref 46), some (.int x1), some (.int x2), some (.int x3), some (.int x4), some (.int x5)]) (st' := [(.int x5), (.int (I 84 x1.toNatClampNeg)), (.int x4)]) (I1 := I) (T1 := T) rfl ?_
      refine ev_callI rfl rfl rfl (fun v2 I2 T2 hq => ?_) (fun x I1 T1 hq => ?_) hq
      · refine ev_br (p := v2 = 0) (a := 34) (b := 36) (st' := [(.int x4)]) inferInstance rfl rfl (fun hb => ?_) (fun hb => ?_)
        · have hq := hq.1 hb
          refine ev_fg [true, true, true, true, false, true] (loc' := [some (.ref 46), some (.int x1), some (.int x2), some (.int x3), none, some (.int x5)]) rfl ?_
          exact s_M_stable_34 (T := T2) hq
        · have hq := hq.2 hb
          refine ev_seq 1 (ip' := 37) (loc' := [some (.ref 46), some (.int x1), some (.int x2), some (.int x3), some (.int x4), some (.int x5)]) (st' := [(.int 0), (.int x4)]) (I1 := I2) (T1 := T2) rfl ?_
          refine ev_fg [true, true, true, true, false, true] (loc' := [some (.ref 46), some (.int x1), some (.int x2), some (.int x3), none, some (.int x5)]) rfl ?_
          exact s_M_stable_37 (T := T2) hq
      · exact hq.elim
    · have hq := hq.2 hb
      refine ev_fg [true, true, true, true, false, true] (loc' := [some (.ref 46), some (.int x1), some (.int x2), some (.int x3), none, some (.int x5)]) rfl ?_
      exact s_M_stable_34 (T := T) hq
def t_M_stable_10 (d9 : Nat) (X9 : Nat × (Nat → Int32)) (I : II) (T : TT) (Q : QQ) (x1 : Int32) (x2 : Int32) (x3 : Int32) : Prop := (x2 ≤ x3 → (Q (.inl (some (.int 0))) I T)) ∧ (¬ (x2 ≤ x3) → (t_M_stable_17 d9 X9 I T Q x1 x2 x3 1 0))
theorem s_M_stable_10 {d9 : Nat} {X9 : Nat × (Nat → Int32)} {I : II} {T : TT} {Q : QQ} {x1 : Int32} {x2 : Int32} {x3 : Int32} (hq : t_M_stable_10 d9 X9 I T Q x1 x2 x3) : ev (d9 + 1, X9) 238 10 [some (.ref 46), some (.int x1), some (.int x2), some (.int x3), none, none] [] I T Q := by
  unfold t_M_stable_10 at hq
  refine ev_seq 2 (ip' := 12) (loc' := [some (.ref 46), some (.int x1), some (.int x2), some (.int x3), none, none]) (st' := [(.int x2), (.int x3)]) (I1 := I) (T1 := T) rfl ?_
  refine ev_br (p := x2 ≤ x3) (a := 60) (b := 13) (st' := []) inferInstance rfl rfl (fun hb => ?_) (fun hb => ?_)
  · have hq := hq.1 hb
    refine ev_seq 1 (ip' := 61) (loc' := [some (.ref 46), some (.int x1), some (.int x2), some (.int x3), none, none]) (st' := [(.int 0)]) (I1 := I) (T1 := T) rfl ?_
    exact ev_ret rfl rfl hq
  · have hq := hq.2 hb
    refine ev_seq 4 (ip' := 17) (loc' := [some (.ref 46), some (.int x1), some (.int x2), some (.int x3), some (.int 1), some (.int 0)]) (st' := []) (I1 := I) (T1 := T) rfl ?_
    exact s_M_stable_17 (T := T) hq
def t_M_stable_0 (d9 : Nat) (X9 : Nat × (Nat → Int32)) (I : II) (T : TT) (Q : QQ) (x1 : Int32) (x2 : Int32) : Prop := (x1 = (I 50 0) → (Q (.inl (some (.int 1))) I T)) ∧ (¬ (x1 = (I 50 0)) → (t_M_stable_10 d9 X9 I T Q x1 x2 0))
theorem s_M_stable_0 {d9 : Nat} {X9 : Nat × (Nat → Int32)} {I : II} {T : TT} {Q : QQ} {x1 : Int32} {x2 : Int32} (hq : t_M_stable_0 d9 X9 I T Q x1 x2) : ev (d9 + 1, X9) 238 0 [some (.ref 46), some (.int x1), some (.int x2), none, none, none] [] I T Q := by
  unfold t_M_stable_0 at hq
  refine ev_seq 5 (ip' := 5) (loc' := [some (.ref 46), some (.int x1), some (.int x2), none, none, none]) (st' := [(.int (I 50 0)), (.int x1)]) (I1 := I) (T1 := T) rfl ?_
  refine ev_br (p := x1 = (I 50 0)) (a := 6) (b := 8) (st' := []) inferInstance rfl rfl (fun hb => ?_) (fun hb => ?_)
  · have hq := hq.1 hb
    refine ev_seq 1 (ip' := 7) (loc' := [some (.ref 46), some (.int x1), some (.int x2), none, none, none]) (st' := [(.int 1)]) (I1 := I) (T1 := T) rfl ?_
    exact ev_ret rfl rfl hq
  · have hq := hq.2 hb
    refine ev_seq 2 (ip' := 10) (loc' := [some (.ref 46), some (.int x1), some (.int x2), some (.int 0), none, none]) (st' := []) (I1 := I) (T1 := T) rfl ?_
    exact s_M_stable_10 (T := T) hq
/-- FeltHarnessModel.stage(II)I -/
def t_M_stage_49 (E : MEnv) (I : II) (T : TT) (Q : QQ) (y0 : Int32) : Prop := Q (.inl (some (.int y0))) I T
theorem s_M_stage_49 {E : MEnv} {I : II} {T : TT} {Q : QQ} {y0 : Int32} (hq : t_M_stage_49 E I T Q y0) : ev E 194 49 [none, none, none] [(.int y0)] I T Q := by
  unfold t_M_stage_49 at hq
  exact ev_ret rfl rfl hq
def t_M_stage_28 (E : MEnv) (I : II) (T : TT) (Q : QQ) : Prop := Q (.inl (some (.int 0))) I T
theorem s_M_stage_28 {E : MEnv} {I : II} {T : TT} {Q : QQ} (hq : t_M_stage_28 E I T Q) : ev E 194 28 [none, none, none] [] I T Q := by
  unfold t_M_stage_28 at hq
  refine ev_seq 1 (ip' := 29) (loc' := [none, none, none]) (st' := [(.int 0)]) (I1 := I) (T1 := T) rfl ?_
  exact ev_ret rfl rfl hq
def t_M_stage_24 (E : MEnv) (I : II) (T : TT) (Q : QQ) (x1 : Int32) (x2 : Int32) (y1 : Int32) : Prop := ev E 58 0 [some (.ref 46), some (.int y1), some (.int 2), some (.int 1)] [] I T (KI (fun v1 I1 T1 => (v1 = 0 → ((2 ≤ x2 → (((I1 508 25) ≤ x1 → (t_M_stage_49 E I1 T1 Q 0)) ∧ (¬ ((I1 508 25) ≤ x1) → (t_M_stage_49 E I1 T1 Q 1)))) ∧ (¬ (2 ≤ x2) → ((¬ x1 < 0 ∧ x1.toNatClampNeg < 6) ∧ ((¬ x2 < 0 ∧ x2.toNatClampNeg < 2) ∧ (t_M_stage_49 E I1 T1 Q (I1 (77 + x1.toNatClampNeg) x2.toNatClampNeg))))))) ∧ (¬ (v1 = 0) → (t_M_stage_28 E I1 T1 Q ))) (fun x I1 T1 => Q (.inr x) I1 T1))
theorem s_M_stage_24 {E : MEnv} {I : II} {T : TT} {Q : QQ} {x1 : Int32} {x2 : Int32} {y1 : Int32} (hq : t_M_stage_24 E I T Q x1 x2 y1) : ev E 194 24 [some (.ref 46), some (.int x1), some (.int x2)] [(.int y1), (.ref 46)] I T Q := by
  unfold t_M_stage_24 at hq
  refine ev_seq 2 (ip' := 26) (loc' := [some (.ref 46), some (.int x1), some (.int x2)]) (st' := [(.int 1), (.int 2), (.int y1), (.ref 46)]) (I1 := I) (T1 := T) rfl ?_
  refine ev_callI rfl rfl rfl (fun v1 I1 T1 hq => ?_) (fun x I1 T1 hq => ?_) hq
  · refine ev_br (p := v1 = 0) (a := 30) (b := 28) (st' := []) inferInstance rfl rfl (fun hb => ?_) (fun hb => ?_)
    · have hq := hq.1 hb
      refine ev_seq 2 (ip' := 32) (loc' := [some (.ref 46), some (.int x1), some (.int x2)]) (st' := [(.int 2), (.int x2)]) (I1 := I1) (T1 := T1) rfl ?_
      refine ev_br (p := 2 ≤ x2) (a := 40) (b := 33) (st' := []) inferInstance rfl rfl (fun hb => ?_) (fun hb => ?_)
      · have hq := hq.1 hb
        refine ev_seq 5 (ip' := 45) (loc' := [some (.ref 46), some (.int x1), some (.int x2)]) (st' := [(.int (I1 508 25)), (.int x1)]) (I1 := I1) (T1 := T1) rfl ?_
        refine ev_br (p := (I1 508 25) ≤ x1) (a := 48) (b := 46) (st' := []) inferInstance rfl rfl (fun hb => ?_) (fun hb => ?_)
        · have hq := hq.1 hb
          refine ev_seq 1 (ip' := 49) (loc' := [some (.ref 46), some (.int x1), some (.int x2)]) (st' := [(.int 0)]) (I1 := I1) (T1 := T1) rfl ?_
          refine ev_fg [false, false, false] (loc' := [none, none, none]) rfl ?_
          exact s_M_stage_49 (T := T1) hq
        · have hq := hq.2 hb
          refine ev_seq 2 (ip' := 49) (loc' := [some (.ref 46), some (.int x1), some (.int x2)]) (st' := [(.int 1)]) (I1 := I1) (T1 := T1) rfl ?_
          refine ev_fg [false, false, false] (loc' := [none, none, none]) rfl ?_
          exact s_M_stage_49 (T := T1) hq
      · have hq := hq.2 hb
        refine ev_seq 3 (ip' := 36) (loc' := [some (.ref 46), some (.int x1), some (.int x2)]) (st' := [(.int x1), (.ref 76)]) (I1 := I1) (T1 := T1) rfl ?_
        obtain ⟨hg, hq⟩ := hq
        have hr2 := hg
        refine ev_aald rfl rfl hg (RF_76 hg.2) ?_
        refine ev_seq 1 (ip' := 38) (loc' := [some (.ref 46), some (.int x1), some (.int x2)]) (st' := [(.int x2), (.ref (77 + x1.toNatClampNeg))]) (I1 := I1) (T1 := T1) rfl ?_
        obtain ⟨hg, hq⟩ := hq
        refine ev_iald rfl (KF_76 hr2.2) hg ?_
        refine ev_seq 1 (ip' := 49) (loc' := [some (.ref 46), some (.int x1), some (.int x2)]) (st' := [(.int (I1 (77 + x1.toNatClampNeg) x2.toNatClampNeg))]) (I1 := I1) (T1 := T1) rfl ?_
        refine ev_fg [false, false, false] (loc' := [none, none, none]) rfl ?_
        exact s_M_stage_49 (T := T1) hq
    · have hq := hq.2 hb
      refine ev_fg [false, false, false] (loc' := [none, none, none]) rfl ?_
      exact s_M_stage_28 (T := T1) hq
  · exact ⟨by decide, hq⟩
def t_M_stage_11 (E : MEnv) (I : II) (T : TT) (Q : QQ) (x1 : Int32) (x2 : Int32) (y1 : Int32) : Prop := ev E 58 0 [some (.ref 46), some (.int y1), some (.int 1), some (.int 0)] [] I T (KI (fun v1 I1 T1 => (v1 = 0 → (ev E 57 0 [some (.int x2), some (.int 0), some (.int 2)] [] I1 T1 (KI (fun v2 I2 T2 => (v2 = 0 → (t_M_stage_24 E I2 T2 Q x1 x2 1)) ∧ (¬ (v2 = 0) → (t_M_stage_24 E I2 T2 Q x1 x2 0))) (fun _ _ _ => False)))) ∧ (¬ (v1 = 0) → (t_M_stage_28 E I1 T1 Q ))) (fun x I1 T1 => Q (.inr x) I1 T1))
theorem s_M_stage_11 {E : MEnv} {I : II} {T : TT} {Q : QQ} {x1 : Int32} {x2 : Int32} {y1 : Int32} (hq : t_M_stage_11 E I T Q x1 x2 y1) : ev E 194 11 [some (.ref 46), some (.int x1), some (.int x2)] [(.int y1), (.ref 46)] I T Q := by
  unfold t_M_stage_11 at hq
  refine ev_seq 2 (ip' := 13) (loc' := [some (.ref 46), some (.int x1), some (.int x2)]) (st' := [(.int 0), (.int 1), (.int y1), (.ref 46)]) (I1 := I) (T1 := T) rfl ?_
  refine ev_callI rfl rfl rfl (fun v1 I1 T1 hq => ?_) (fun x I1 T1 hq => ?_) hq
  · refine ev_br (p := v1 = 0) (a := 15) (b := 28) (st' := []) inferInstance rfl rfl (fun hb => ?_) (fun hb => ?_)
    · have hq := hq.1 hb
      refine ev_seq 4 (ip' := 19) (loc' := [some (.ref 46), some (.int x1), some (.int x2)]) (st' := [(.int 2), (.int 0), (.int x2), (.ref 46)]) (I1 := I1) (T1 := T1) rfl ?_
      refine ev_callI rfl rfl rfl (fun v2 I2 T2 hq => ?_) (fun x I1 T1 hq => ?_) hq
      · refine ev_br (p := v2 = 0) (a := 21) (b := 23) (st' := [(.ref 46)]) inferInstance rfl rfl (fun hb => ?_) (fun hb => ?_)
        · have hq := hq.1 hb
          refine ev_seq 2 (ip' := 24) (loc' := [some (.ref 46), some (.int x1), some (.int x2)]) (st' := [(.int 1), (.ref 46)]) (I1 := I2) (T1 := T2) rfl ?_
          exact s_M_stage_24 (T := T2) hq
        · have hq := hq.2 hb
          refine ev_seq 1 (ip' := 24) (loc' := [some (.ref 46), some (.int x1), some (.int x2)]) (st' := [(.int 0), (.ref 46)]) (I1 := I2) (T1 := T2) rfl ?_
          exact s_M_stage_24 (T := T2) hq
      · exact hq.elim
    · have hq := hq.2 hb
      refine ev_fg [false, false, false] (loc' := [none, none, none]) rfl ?_
      exact s_M_stage_28 (T := T1) hq
  · exact ⟨by decide, hq⟩
def t_M_stage_0 (E : MEnv) (I : II) (T : TT) (Q : QQ) (x1 : Int32) (x2 : Int32) : Prop := ev E 195 0 [some (.ref 46), some (.int x1)] [] (m_up I 46 0 0) T (KI (fun v1 I1 T1 => (v1 = 0 → (t_M_stage_11 E I1 T1 Q x1 x2 1)) ∧ (¬ (v1 = 0) → (t_M_stage_11 E I1 T1 Q x1 x2 0))) (fun x I1 T1 => Q (.inr x) I1 T1))
theorem s_M_stage_0 {E : MEnv} {I : II} {T : TT} {Q : QQ} {x1 : Int32} {x2 : Int32} (hq : t_M_stage_0 E I T Q x1 x2) : ev E 194 0 [some (.ref 46), some (.int x1), some (.int x2)] [] I T Q := by
  unfold t_M_stage_0 at hq
  refine ev_seq 6 (ip' := 6) (loc' := [some (.ref 46), some (.int x1), some (.int x2)]) (st' := [(.int x1), (.ref 46), (.ref 46)]) (I1 := m_up I 46 0 0) (T1 := T) rfl ?_
  refine ev_callI rfl rfl rfl (fun v1 I1 T1 hq => ?_) (fun x I1 T1 hq => ?_) hq
  · refine ev_br (p := v1 = 0) (a := 8) (b := 10) (st' := [(.ref 46)]) inferInstance rfl rfl (fun hb => ?_) (fun hb => ?_)
    · have hq := hq.1 hb
      refine ev_seq 2 (ip' := 11) (loc' := [some (.ref 46), some (.int x1), some (.int x2)]) (st' := [(.int 1), (.ref 46)]) (I1 := I1) (T1 := T1) rfl ?_
      exact s_M_stage_11 (T := T1) hq
    · have hq := hq.2 hb
      refine ev_seq 1 (ip' := 11) (loc' := [some (.ref 46), some (.int x1), some (.int x2)]) (st' := [(.int 0), (.ref 46)]) (I1 := I1) (T1 := T1) rfl ?_
      exact s_M_stage_11 (T := T1) hq
  · exact ⟨by decide, hq⟩
/-- FeltHarnessModel.stall(I)I -/
def t_M_stall_11 (E : MEnv) (I : II) (T : TT) (Q : QQ) (x1 : Int32) (y1 : Int32) : Prop := ev E 58 0 [some (.ref 46), some (.int y1), some (.int 1), some (.int 0)] [] I T (KI (fun v1 I1 T1 => (v1 = 0 → (ev E 237 0 [some (.ref 46), none] [] I1 T1 (KI (fun v2 I2 T2 => (¬ x1 < 0 ∧ x1.toNatClampNeg < 8) ∧ (Q (.inl (some (.int (I2 533 x1.toNatClampNeg)))) I2 T2)) (fun x I1 T1 => Q (.inr x) I1 T1)))) ∧ (¬ (v1 = 0) → (Q (.inl (some (.int 0))) I1 T1))) (fun x I1 T1 => Q (.inr x) I1 T1))
theorem s_M_stall_11 {E : MEnv} {I : II} {T : TT} {Q : QQ} {x1 : Int32} {y1 : Int32} (hq : t_M_stall_11 E I T Q x1 y1) : ev E 242 11 [some (.ref 46), some (.int x1)] [(.int y1), (.ref 46)] I T Q := by
  unfold t_M_stall_11 at hq
  refine ev_seq 2 (ip' := 13) (loc' := [some (.ref 46), some (.int x1)]) (st' := [(.int 0), (.int 1), (.int y1), (.ref 46)]) (I1 := I) (T1 := T) rfl ?_
  refine ev_callI rfl rfl rfl (fun v1 I1 T1 hq => ?_) (fun x I1 T1 hq => ?_) hq
  · refine ev_br (p := v1 = 0) (a := 17) (b := 15) (st' := []) inferInstance rfl rfl (fun hb => ?_) (fun hb => ?_)
    · have hq := hq.1 hb
      refine ev_seq 1 (ip' := 18) (loc' := [some (.ref 46), some (.int x1)]) (st' := [(.ref 46)]) (I1 := I1) (T1 := T1) rfl ?_
      refine ev_callI rfl rfl rfl (fun v2 I2 T2 hq => ?_) (fun x I1 T1 hq => ?_) hq
      · refine ev_seq 4 (ip' := 23) (loc' := [some (.ref 46), some (.int x1)]) (st' := [(.int x1), (.ref 533)]) (I1 := I2) (T1 := T2) rfl ?_
        obtain ⟨hg, hq⟩ := hq
        refine ev_iald rfl rfl hg ?_
        exact ev_ret rfl rfl hq
      · exact ⟨by decide, hq⟩
    · have hq := hq.2 hb
      refine ev_seq 1 (ip' := 16) (loc' := [some (.ref 46), some (.int x1)]) (st' := [(.int 0)]) (I1 := I1) (T1 := T1) rfl ?_
      exact ev_ret rfl rfl hq
  · exact ⟨by decide, hq⟩
def t_M_stall_0 (E : MEnv) (I : II) (T : TT) (Q : QQ) (x1 : Int32) : Prop := ev E 190 0 [some (.ref 46), some (.int x1)] [] (m_up I 46 0 0) T (KI (fun v1 I1 T1 => (v1 = 0 → (t_M_stall_11 E I1 T1 Q x1 1)) ∧ (¬ (v1 = 0) → (t_M_stall_11 E I1 T1 Q x1 0))) (fun x I1 T1 => Q (.inr x) I1 T1))
theorem s_M_stall_0 {E : MEnv} {I : II} {T : TT} {Q : QQ} {x1 : Int32} (hq : t_M_stall_0 E I T Q x1) : ev E 242 0 [some (.ref 46), some (.int x1)] [] I T Q := by
  unfold t_M_stall_0 at hq
  refine ev_seq 6 (ip' := 6) (loc' := [some (.ref 46), some (.int x1)]) (st' := [(.int x1), (.ref 46), (.ref 46)]) (I1 := m_up I 46 0 0) (T1 := T) rfl ?_
  refine ev_callI rfl rfl rfl (fun v1 I1 T1 hq => ?_) (fun x I1 T1 hq => ?_) hq
  · refine ev_br (p := v1 = 0) (a := 8) (b := 10) (st' := [(.ref 46)]) inferInstance rfl rfl (fun hb => ?_) (fun hb => ?_)
    · have hq := hq.1 hb
      refine ev_seq 2 (ip' := 11) (loc' := [some (.ref 46), some (.int x1)]) (st' := [(.int 1), (.ref 46)]) (I1 := I1) (T1 := T1) rfl ?_
      exact s_M_stall_11 (T := T1) hq
    · have hq := hq.2 hb
      refine ev_seq 1 (ip' := 11) (loc' := [some (.ref 46), some (.int x1)]) (st' := [(.int 0), (.ref 46)]) (I1 := I1) (T1 := T1) rfl ?_
      exact s_M_stall_11 (T := T1) hq
  · exact ⟨by decide, hq⟩
/-- FeltHarnessModel.stalls()I -/
def t_M_stalls_0 (E : MEnv) (I : II) (T : TT) (Q : QQ) : Prop := ev E 237 0 [some (.ref 46), none] [] (m_up I 46 0 0) T (KI (fun v1 I1 T1 => Q (.inl (some (.int v1))) I1 T1) (fun x I1 T1 => Q (.inr x) I1 T1))
theorem s_M_stalls_0 {E : MEnv} {I : II} {T : TT} {Q : QQ} (hq : t_M_stalls_0 E I T Q) : ev E 236 0 [some (.ref 46)] [] I T Q := by
  unfold t_M_stalls_0 at hq
  refine ev_seq 4 (ip' := 4) (loc' := [some (.ref 46)]) (st' := [(.ref 46)]) (I1 := m_up I 46 0 0) (T1 := T) rfl ?_
  refine ev_callI rfl rfl rfl (fun v1 I1 T1 hq => ?_) (fun x I1 T1 hq => ?_) hq
  · exact ev_ret rfl rfl hq
  · exact ⟨by decide, hq⟩
/-- FeltHarnessModel.stands(II)I -/
def t_M_stands_26 (E : MEnv) (I : II) (T : TT) (Q : QQ) : Prop := Q (.inl (some (.int 0))) I T
theorem s_M_stands_26 {E : MEnv} {I : II} {T : TT} {Q : QQ} (hq : t_M_stands_26 E I T Q) : ev E 231 26 [none, none, none] [] I T Q := by
  unfold t_M_stands_26 at hq
  refine ev_seq 1 (ip' := 27) (loc' := [none, none, none]) (st' := [(.int 0)]) (I1 := I) (T1 := T) rfl ?_
  exact ev_ret rfl rfl hq
def t_M_stands_22 (E : MEnv) (I : II) (T : TT) (Q : QQ) (x1 : Int32) (x2 : Int32) (y1 : Int32) : Prop := ev E 58 0 [some (.ref 46), some (.int y1), some (.int 2), some (.int 1)] [] I T (KI (fun v1 I1 T1 => (v1 = 0 → (ev E 225 0 [some (.ref 46), some (.int x1), none] [] I1 T1 (KV (fun I2 T2 => (¬ x2 < 0 ∧ x2.toNatClampNeg < 4) ∧ (Q (.inl (some (.int (I2 532 x2.toNatClampNeg)))) I2 T2)) (fun x I1 T1 => Q (.inr x) I1 T1)))) ∧ (¬ (v1 = 0) → (t_M_stands_26 E I1 T1 Q ))) (fun x I1 T1 => Q (.inr x) I1 T1))
theorem s_M_stands_22 {E : MEnv} {I : II} {T : TT} {Q : QQ} {x1 : Int32} {x2 : Int32} {y1 : Int32} (hq : t_M_stands_22 E I T Q x1 x2 y1) : ev E 231 22 [some (.ref 46), some (.int x1), some (.int x2)] [(.int y1), (.ref 46)] I T Q := by
  unfold t_M_stands_22 at hq
  refine ev_seq 2 (ip' := 24) (loc' := [some (.ref 46), some (.int x1), some (.int x2)]) (st' := [(.int 1), (.int 2), (.int y1), (.ref 46)]) (I1 := I) (T1 := T) rfl ?_
  refine ev_callI rfl rfl rfl (fun v1 I1 T1 hq => ?_) (fun x I1 T1 hq => ?_) hq
  · refine ev_br (p := v1 = 0) (a := 28) (b := 26) (st' := []) inferInstance rfl rfl (fun hb => ?_) (fun hb => ?_)
    · have hq := hq.1 hb
      refine ev_seq 2 (ip' := 30) (loc' := [some (.ref 46), some (.int x1), some (.int x2)]) (st' := [(.int x1), (.ref 46)]) (I1 := I1) (T1 := T1) rfl ?_
      refine ev_callV rfl rfl rfl (fun I2 T2 hq => ?_) (fun x I1 T1 hq => ?_) hq
      · refine ev_seq 3 (ip' := 34) (loc' := [some (.ref 46), some (.int x1), some (.int x2)]) (st' := [(.int x2), (.ref 532)]) (I1 := I2) (T1 := T2) rfl ?_
        obtain ⟨hg, hq⟩ := hq
        refine ev_iald rfl rfl hg ?_
        exact ev_ret rfl rfl hq
      · exact ⟨by decide, hq⟩
    · have hq := hq.2 hb
      refine ev_fg [false, false, false] (loc' := [none, none, none]) rfl ?_
      exact s_M_stands_26 (T := T1) hq
  · exact ⟨by decide, hq⟩
def t_M_stands_11 (E : MEnv) (I : II) (T : TT) (Q : QQ) (x1 : Int32) (x2 : Int32) (y1 : Int32) : Prop := ev E 58 0 [some (.ref 46), some (.int y1), some (.int 1), some (.int 0)] [] I T (KI (fun v1 I1 T1 => (v1 = 0 → (ev E 200 0 [some (.int x2)] [] I1 T1 (KI (fun v2 I2 T2 => (v2 = 0 → (t_M_stands_22 E I2 T2 Q x1 x2 1)) ∧ (¬ (v2 = 0) → (t_M_stands_22 E I2 T2 Q x1 x2 0))) (fun _ _ _ => False)))) ∧ (¬ (v1 = 0) → (t_M_stands_26 E I1 T1 Q ))) (fun x I1 T1 => Q (.inr x) I1 T1))
theorem s_M_stands_11 {E : MEnv} {I : II} {T : TT} {Q : QQ} {x1 : Int32} {x2 : Int32} {y1 : Int32} (hq : t_M_stands_11 E I T Q x1 x2 y1) : ev E 231 11 [some (.ref 46), some (.int x1), some (.int x2)] [(.int y1), (.ref 46)] I T Q := by
  unfold t_M_stands_11 at hq
  refine ev_seq 2 (ip' := 13) (loc' := [some (.ref 46), some (.int x1), some (.int x2)]) (st' := [(.int 0), (.int 1), (.int y1), (.ref 46)]) (I1 := I) (T1 := T) rfl ?_
  refine ev_callI rfl rfl rfl (fun v1 I1 T1 hq => ?_) (fun x I1 T1 hq => ?_) hq
  · refine ev_br (p := v1 = 0) (a := 15) (b := 26) (st' := []) inferInstance rfl rfl (fun hb => ?_) (fun hb => ?_)
    · have hq := hq.1 hb
      refine ev_seq 2 (ip' := 17) (loc' := [some (.ref 46), some (.int x1), some (.int x2)]) (st' := [(.int x2), (.ref 46)]) (I1 := I1) (T1 := T1) rfl ?_
      refine ev_callI rfl rfl rfl (fun v2 I2 T2 hq => ?_) (fun x I1 T1 hq => ?_) hq
      · refine ev_br (p := v2 = 0) (a := 19) (b := 21) (st' := [(.ref 46)]) inferInstance rfl rfl (fun hb => ?_) (fun hb => ?_)
        · have hq := hq.1 hb
          refine ev_seq 2 (ip' := 22) (loc' := [some (.ref 46), some (.int x1), some (.int x2)]) (st' := [(.int 1), (.ref 46)]) (I1 := I2) (T1 := T2) rfl ?_
          exact s_M_stands_22 (T := T2) hq
        · have hq := hq.2 hb
          refine ev_seq 1 (ip' := 22) (loc' := [some (.ref 46), some (.int x1), some (.int x2)]) (st' := [(.int 0), (.ref 46)]) (I1 := I2) (T1 := T2) rfl ?_
          exact s_M_stands_22 (T := T2) hq
      · exact hq.elim
    · have hq := hq.2 hb
      refine ev_fg [false, false, false] (loc' := [none, none, none]) rfl ?_
      exact s_M_stands_26 (T := T1) hq
  · exact ⟨by decide, hq⟩
def t_M_stands_0 (E : MEnv) (I : II) (T : TT) (Q : QQ) (x1 : Int32) (x2 : Int32) : Prop := ev E 195 0 [some (.ref 46), some (.int x1)] [] (m_up I 46 0 0) T (KI (fun v1 I1 T1 => (v1 = 0 → (t_M_stands_11 E I1 T1 Q x1 x2 1)) ∧ (¬ (v1 = 0) → (t_M_stands_11 E I1 T1 Q x1 x2 0))) (fun x I1 T1 => Q (.inr x) I1 T1))
theorem s_M_stands_0 {E : MEnv} {I : II} {T : TT} {Q : QQ} {x1 : Int32} {x2 : Int32} (hq : t_M_stands_0 E I T Q x1 x2) : ev E 231 0 [some (.ref 46), some (.int x1), some (.int x2)] [] I T Q := by
  unfold t_M_stands_0 at hq
  refine ev_seq 6 (ip' := 6) (loc' := [some (.ref 46), some (.int x1), some (.int x2)]) (st' := [(.int x1), (.ref 46), (.ref 46)]) (I1 := m_up I 46 0 0) (T1 := T) rfl ?_
  refine ev_callI rfl rfl rfl (fun v1 I1 T1 hq => ?_) (fun x I1 T1 hq => ?_) hq
  · refine ev_br (p := v1 = 0) (a := 8) (b := 10) (st' := [(.ref 46)]) inferInstance rfl rfl (fun hb => ?_) (fun hb => ?_)
    · have hq := hq.1 hb
      refine ev_seq 2 (ip' := 11) (loc' := [some (.ref 46), some (.int x1), some (.int x2)]) (st' := [(.int 1), (.ref 46)]) (I1 := I1) (T1 := T1) rfl ?_
      exact s_M_stands_11 (T := T1) hq
    · have hq := hq.2 hb
      refine ev_seq 1 (ip' := 11) (loc' := [some (.ref 46), some (.int x1), some (.int x2)]) (st' := [(.int 0), (.ref 46)]) (I1 := I1) (T1 := T1) rfl ?_
      exact s_M_stands_11 (T := T1) hq
  · exact ⟨by decide, hq⟩
/-- FeltHarnessModel.starts(I)V -/
def t_M_starts_0 (E : MEnv) (I : II) (T : TT) (Q : QQ) (x1 : Int32) : Prop := ev E 60 0 [some (.ref 46)] [] (m_up (m_up (m_up (m_up (m_up (m_up (m_up I 46 1 0) 46 2 x1) 46 4 0) 46 5 0) 46 6 (-1)) 46 7 0) 46 8 0) T (KV (fun I1 T1 => Q (.inl none) I1 T1) (fun x I1 T1 => Q (.inr x) I1 T1))
theorem s_M_starts_0 {E : MEnv} {I : II} {T : TT} {Q : QQ} {x1 : Int32} (hq : t_M_starts_0 E I T Q x1) : ev E 59 0 [some (.ref 46), some (.int x1)] [] I T Q := by
  unfold t_M_starts_0 at hq
  refine ev_seq 22 (ip' := 22) (loc' := [some (.ref 46), some (.int x1)]) (st' := [(.ref 46)]) (I1 := m_up (m_up (m_up (m_up (m_up (m_up (m_up I 46 1 0) 46 2 x1) 46 4 0) 46 5 0) 46 6 (-1)) 46 7 0) 46 8 0) (T1 := T) rfl ?_
  refine ev_callV rfl rfl rfl (fun I1 T1 hq => ?_) (fun x I1 T1 hq => ?_) hq
  · exact ev_ret rfl rfl hq
  · exact ⟨by decide, hq⟩
/-- FeltHarnessModel.status(I)I -/
def t_M_status_14 (E : MEnv) (I : II) (T : TT) (Q : QQ) (y0 : Int32) : Prop := Q (.inl (some (.int y0))) I T
theorem s_M_status_14 {E : MEnv} {I : II} {T : TT} {Q : QQ} {y0 : Int32} (hq : t_M_status_14 E I T Q y0) : ev E 333 14 [none, none] [(.int y0)] I T Q := by
  unfold t_M_status_14 at hq
  exact ev_ret rfl rfl hq
def t_M_status_0 (E : MEnv) (I : II) (T : TT) (Q : QQ) (x1 : Int32) : Prop := ev E 57 0 [some (.int x1), some (.int 0), some (.int 1)] [] (m_up I 46 0 0) T (KI (fun v1 I1 T1 => (v1 = 0 → (t_M_status_14 E I1 T1 Q (-1))) ∧ (¬ (v1 = 0) → ((¬ x1 < 0 ∧ x1.toNatClampNeg < 2) ∧ (t_M_status_14 E I1 T1 Q (I1 48 x1.toNatClampNeg))))) (fun _ _ _ => False))
theorem s_M_status_0 {E : MEnv} {I : II} {T : TT} {Q : QQ} {x1 : Int32} (hq : t_M_status_0 E I T Q x1) : ev E 333 0 [some (.ref 46), some (.int x1)] [] I T Q := by
  unfold t_M_status_0 at hq
  refine ev_seq 6 (ip' := 6) (loc' := [some (.ref 46), some (.int x1)]) (st' := [(.int 1), (.int 0), (.int x1)]) (I1 := m_up I 46 0 0) (T1 := T) rfl ?_
  refine ev_callI rfl rfl rfl (fun v1 I1 T1 hq => ?_) (fun x I1 T1 hq => ?_) hq
  · refine ev_br (p := v1 = 0) (a := 13) (b := 8) (st' := []) inferInstance rfl rfl (fun hb => ?_) (fun hb => ?_)
    · have hq := hq.1 hb
      refine ev_seq 1 (ip' := 14) (loc' := [some (.ref 46), some (.int x1)]) (st' := [(.int (-1))]) (I1 := I1) (T1 := T1) rfl ?_
      refine ev_fg [false, false] (loc' := [none, none]) rfl ?_
      exact s_M_status_14 (T := T1) hq
    · have hq := hq.2 hb
      refine ev_seq 3 (ip' := 11) (loc' := [some (.ref 46), some (.int x1)]) (st' := [(.int x1), (.ref 48)]) (I1 := I1) (T1 := T1) rfl ?_
      obtain ⟨hg, hq⟩ := hq
      refine ev_iald rfl rfl hg ?_
      refine ev_seq 1 (ip' := 14) (loc' := [some (.ref 46), some (.int x1)]) (st' := [(.int (I1 48 x1.toNatClampNeg))]) (I1 := I1) (T1 := T1) rfl ?_
      refine ev_fg [false, false] (loc' := [none, none]) rfl ?_
      exact s_M_status_14 (T := T1) hq
  · exact hq.elim
/-- FeltHarnessModel.steady(IIII)J -/
def t_M_steady_137 (E : MEnv) (I : II) (T : TT) (Q : QQ) (y0 : Int64) : Prop := Q (.inl (some (.long y0))) I T
theorem s_M_steady_137 {E : MEnv} {I : II} {T : TT} {Q : QQ} {y0 : Int64} (hq : t_M_steady_137 E I T Q y0) : ev E 274 137 [none, none, none, none, none, none, none, none, none, none, none, none, none, none, none] [(.long y0)] I T Q := by
  unfold t_M_steady_137 at hq
  exact ev_ret rfl rfl hq
def t_M_steady_115 (E : MEnv) (I : II) (T : TT) (Q : QQ) (x4 : Int32) (x5 : Int64) (x7 : Int64) (x9 : Int64) (x11 : Int64) : Prop := ((lg_cmp x11 0) = 0 → ((x4 = 0 → (x9 ≠ 0 ∧ (t_M_steady_137 E I T Q (x5 / x9)))) ∧ (¬ (x4 = 0) → (x9 ≠ 0 ∧ (t_M_steady_137 E I T Q (x7 / x9)))))) ∧ (¬ ((lg_cmp x11 0) = 0) → (x11 ≠ 0 ∧ (ev E 274 115 [none, none, none, none, some (.int x4), some (.long x5), none, some (.long x7), none, some (.long x11), none, some (.long (x9 - x9 / x11 * x11)), none, none, none] [] I T Q)))
theorem s_M_steady_115 {E : MEnv} {I : II} {T : TT} {Q : QQ} {x4 : Int32} {x5 : Int64} {x7 : Int64} {x9 : Int64} {x11 : Int64} (hq : t_M_steady_115 E I T Q x4 x5 x7 x9 x11) : ev E 274 115 [none, none, none, none, some (.int x4), some (.long x5), none, some (.long x7), none, some (.long x9), none, some (.long x11), none, none, none] [] I T Q := by
  unfold t_M_steady_115 at hq
  refine ev_seq 3 (ip' := 118) (loc' := [none, none, none, none, some (.int x4), some (.long x5), none, some (.long x7), none, some (.long x9), none, some (.long x11), none, none, none]) (st' := [(.int (lg_cmp x11 0))]) (I1 := I) (T1 := T) rfl ?_
  refine ev_br (p := (lg_cmp x11 0) = 0) (a := 128) (b := 119) (st' := []) inferInstance rfl rfl (fun hb => ?_) (fun hb => ?_)
  · have hq := hq.1 hb
    refine ev_seq 1 (ip' := 129) (loc' := [none, none, none, none, some (.int x4), some (.long x5), none, some (.long x7), none, some (.long x9), none, some (.long x11), none, none, none]) (st' := [(.int x4)]) (I1 := I) (T1 := T) rfl ?_
    refine ev_br (p := x4 = 0) (a := 130) (b := 134) (st' := []) inferInstance rfl rfl (fun hb => ?_) (fun hb => ?_)
    · have hq := hq.1 hb
      refine ev_seq 2 (ip' := 132) (loc' := [none, none, none, none, some (.int x4), some (.long x5), none, some (.long x7), none, some (.long x9), none, some (.long x11), none, none, none]) (st' := [(.long x9), (.long x5)]) (I1 := I) (T1 := T) rfl ?_
      obtain ⟨hg, hq⟩ := hq
      refine ev_pr rfl (ev_ldiv hg) ?_
      refine ev_seq 1 (ip' := 137) (loc' := [none, none, none, none, some (.int x4), some (.long x5), none, some (.long x7), none, some (.long x9), none, some (.long x11), none, none, none]) (st' := [(.long (x5 / x9))]) (I1 := I) (T1 := T) rfl ?_
      refine ev_fg [true, true, true, true, false, false, true, false, true, false, true, false, true, true, true] (loc' := [none, none, none, none, none, none, none, none, none, none, none, none, none, none, none]) rfl ?_
      exact s_M_steady_137 (T := T) hq
    · have hq := hq.2 hb
      refine ev_seq 2 (ip' := 136) (loc' := [none, none, none, none, some (.int x4), some (.long x5), none, some (.long x7), none, some (.long x9), none, some (.long x11), none, none, none]) (st' := [(.long x9), (.long x7)]) (I1 := I) (T1 := T) rfl ?_
      obtain ⟨hg, hq⟩ := hq
      refine ev_pr rfl (ev_ldiv hg) ?_
      refine ev_fg [true, true, true, true, false, false, true, false, true, false, true, false, true, true, true] (loc' := [none, none, none, none, none, none, none, none, none, none, none, none, none, none, none]) rfl ?_
      exact s_M_steady_137 (T := T) hq
  · have hq := hq.2 hb
    refine ev_seq 2 (ip' := 121) (loc' := [none, none, none, none, some (.int x4), some (.long x5), none, some (.long x7), none, some (.long x9), none, some (.long x11), none, none, none]) (st' := [(.long x11), (.long x9)]) (I1 := I) (T1 := T) rfl ?_
    obtain ⟨hg, hq⟩ := hq
    refine ev_pr rfl (ev_lrem hg) ?_
    refine ev_seq 6 (ip' := 115) (loc' := [none, none, none, none, some (.int x4), some (.long x5), none, some (.long x7), none, some (.long x11), none, some (.long (x9 - x9 / x11 * x11)), none, some (.long (x9 - x9 / x11 * x11)), none]) (st' := []) (I1 := I) (T1 := T) rfl ?_
    refine ev_fg [true, true, true, true, true, true, true, true, true, true, true, true, true, false, true] (loc' := [none, none, none, none, some (.int x4), some (.long x5), none, some (.long x7), none, some (.long x11), none, some (.long (x9 - x9 / x11 * x11)), none, none, none]) rfl ?_
    exact hq
def t_M_steady_99 (E : MEnv) (I : II) (T : TT) (Q : QQ) (x4 : Int32) (x5 : Int64) (x7 : Int64) (x9 : Int32) : Prop := (14 ≤ x9 → (t_M_steady_115 E I T Q x4 x5 x7 x7 x5)) ∧ (¬ (14 ≤ x9) → ((¬ x9 < 0 ∧ x9.toNatClampNeg < 14) ∧ (ev E 274 99 [some (.ref 46), none, none, none, some (.int x4), some (.long (x5 + (T.1 535 x9.toNatClampNeg))), none, some (.long x7), none, some (.int (x9 + 1)), none, none, none, none, none] [] I T Q)))
theorem s_M_steady_99 {E : MEnv} {I : II} {T : TT} {Q : QQ} {x4 : Int32} {x5 : Int64} {x7 : Int64} {x9 : Int32} (hq : t_M_steady_99 E I T Q x4 x5 x7 x9) : ev E 274 99 [some (.ref 46), none, none, none, some (.int x4), some (.long x5), none, some (.long x7), none, some (.int x9), none, none, none, none, none] [] I T Q := by
  unfold t_M_steady_99 at hq
  refine ev_seq 2 (ip' := 101) (loc' := [some (.ref 46), none, none, none, some (.int x4), some (.long x5), none, some (.long x7), none, some (.int x9), none, none, none, none, none]) (st' := [(.int 14), (.int x9)]) (I1 := I) (T1 := T) rfl ?_
  refine ev_br (p := 14 ≤ x9) (a := 111) (b := 102) (st' := []) inferInstance rfl rfl (fun hb => ?_) (fun hb => ?_)
  · have hq := hq.1 hb
    refine ev_seq 4 (ip' := 115) (loc' := [some (.ref 46), none, none, none, some (.int x4), some (.long x5), none, some (.long x7), none, some (.long x7), none, some (.long x5), none, none, none]) (st' := []) (I1 := I) (T1 := T) rfl ?_
    refine ev_fg [false, true, true, true, true, true, true, true, true, true, true, true, true, true, true] (loc' := [none, none, none, none, some (.int x4), some (.long x5), none, some (.long x7), none, some (.long x7), none, some (.long x5), none, none, none]) rfl ?_
    exact s_M_steady_115 (T := T) hq
  · have hq := hq.2 hb
    refine ev_seq 4 (ip' := 106) (loc' := [some (.ref 46), none, none, none, some (.int x4), some (.long x5), none, some (.long x7), none, some (.int x9), none, none, none, none, none]) (st' := [(.int x9), (.ref 535), (.long x5)]) (I1 := I) (T1 := T) rfl ?_
    obtain ⟨hg, hq⟩ := hq
    refine ev_lald rfl rfl hg ?_
    refine ev_seq 4 (ip' := 99) (loc' := [some (.ref 46), none, none, none, some (.int x4), some (.long (x5 + (T.1 535 x9.toNatClampNeg))), none, some (.long x7), none, some (.int (x9 + 1)), none, none, none, none, none]) (st' := []) (I1 := I) (T1 := T) rfl ?_
    exact hq
def t_M_steady_83 (E : MEnv) (I : II) (T : TT) (Q : QQ) (x1 : Int32) (x2 : Int32) (x3 : Int32) (x4 : Int32) (x5 : Int32) (x6 : Int32) (y1 : Int32) (y2 : Int64) (y3 : Int64) : Prop := (¬ y1 < 0 ∧ y1.toNatClampNeg < 14) ∧ (ev E 274 56 [some (.ref 46), some (.int x1), some (.int x2), some (.int x3), some (.int x4), some (.int x5), some (.int (x6 + (-1))), none, none, none, none, none, none, none, none] [] I ((m_up T.1 535 y1.toNatClampNeg (y2 + y3), T.2)) Q)
theorem s_M_steady_83 {E : MEnv} {I : II} {T : TT} {Q : QQ} {x1 : Int32} {x2 : Int32} {x3 : Int32} {x4 : Int32} {x5 : Int32} {x6 : Int32} {y1 : Int32} {y2 : Int64} {y3 : Int64} (hq : t_M_steady_83 E I T Q x1 x2 x3 x4 x5 x6 y1 y2 y3) : ev E 274 83 [some (.ref 46), some (.int x1), some (.int x2), some (.int x3), some (.int x4), some (.int x5), some (.int x6), none, none, none, none, none, none, none, none] [(.long y3), (.long y2), (.int y1), (.ref 535)] I T Q := by
  unfold t_M_steady_83 at hq
  refine ev_seq 1 (ip' := 84) (loc' := [some (.ref 46), some (.int x1), some (.int x2), some (.int x3), some (.int x4), some (.int x5), some (.int x6), none, none, none, none, none, none, none, none]) (st' := [(.long (y2 + y3)), (.int y1), (.ref 535)]) (I1 := I) (T1 := T) rfl ?_
  obtain ⟨hg, hq⟩ := hq
  refine ev_last rfl rfl hg ?_
  refine ev_seq 2 (ip' := 56) (loc' := [some (.ref 46), some (.int x1), some (.int x2), some (.int x3), some (.int x4), some (.int x5), some (.int (x6 + (-1))), none, none, none, none, none, none, none, none]) (st' := []) (I1 := I) (T1 := (m_up T.1 535 y1.toNatClampNeg (y2 + y3), T.2)) rfl ?_
  exact hq
def t_M_steady_56 (E : MEnv) (I : II) (T : TT) (Q : QQ) (x1 : Int32) (x2 : Int32) (x3 : Int32) (x4 : Int32) (x5 : Int32) (x6 : Int32) : Prop := (x6 < 0 → (ev E 274 51 [some (.ref 46), some (.int x1), some (.int x2), some (.int x3), some (.int x4), some (.int (x5 + 1)), none, none, none, none, none, none, none, none, none] [] I T Q)) ∧ (¬ (x6 < 0) → ((¬ x6 < 0 ∧ x6.toNatClampNeg < 14) ∧ ((x6 ≤ 0 → (t_M_steady_83 E I T Q x1 x2 x3 x4 x5 x6 x6 ((T.1 535 x6.toNatClampNeg) * x3.toInt64) 0)) ∧ (¬ (x6 ≤ 0) → ((¬ (x6 - 1) < 0 ∧ (x6 - 1).toNatClampNeg < 14) ∧ (t_M_steady_83 E I T Q x1 x2 x3 x4 x5 x6 x6 ((T.1 535 x6.toNatClampNeg) * x3.toInt64) ((T.1 535 (x6 - 1).toNatClampNeg) * ((16 - x3).toInt64))))))))
theorem s_M_steady_56 {E : MEnv} {I : II} {T : TT} {Q : QQ} {x1 : Int32} {x2 : Int32} {x3 : Int32} {x4 : Int32} {x5 : Int32} {x6 : Int32} (hq : t_M_steady_56 E I T Q x1 x2 x3 x4 x5 x6) : ev E 274 56 [some (.ref 46), some (.int x1), some (.int x2), some (.int x3), some (.int x4), some (.int x5), some (.int x6), none, none, none, none, none, none, none, none] [] I T Q := by
  unfold t_M_steady_56 at hq
  refine ev_seq 1 (ip' := 57) (loc' := [some (.ref 46), some (.int x1), some (.int x2), some (.int x3), some (.int x4), some (.int x5), some (.int x6), none, none, none, none, none, none, none, none]) (st' := [(.int x6)]) (I1 := I) (T1 := T) rfl ?_
  refine ev_br (p := x6 < 0) (a := 87) (b := 58) (st' := []) inferInstance rfl rfl (fun hb => ?_) (fun hb => ?_)
  · have hq := hq.1 hb
    refine ev_seq 2 (ip' := 51) (loc' := [some (.ref 46), some (.int x1), some (.int x2), some (.int x3), some (.int x4), some (.int (x5 + 1)), some (.int x6), none, none, none, none, none, none, none, none]) (st' := []) (I1 := I) (T1 := T) rfl ?_
    refine ev_fg [true, true, true, true, true, true, false, true, true, true, true, true, true, true, true] (loc' := [some (.ref 46), some (.int x1), some (.int x2), some (.int x3), some (.int x4), some (.int (x5 + 1)), none, none, none, none, none, none, none, none, none]) rfl ?_
    exact hq
  · have hq := hq.2 hb
    refine ev_seq 6 (ip' := 64) (loc' := [some (.ref 46), some (.int x1), some (.int x2), some (.int x3), some (.int x4), some (.int x5), some (.int x6), none, none, none, none, none, none, none, none]) (st' := [(.int x6), (.ref 535), (.int x6), (.ref 535)]) (I1 := I) (T1 := T) rfl ?_
    obtain ⟨hg, hq⟩ := hq
    refine ev_lald rfl rfl hg ?_
    refine ev_seq 4 (ip' := 69) (loc' := [some (.ref 46), some (.int x1), some (.int x2), some (.int x3), some (.int x4), some (.int x5), some (.int x6), none, none, none, none, none, none, none, none]) (st' := [(.int x6), (.long ((T.1 535 x6.toNatClampNeg) * x3.toInt64)), (.int x6), (.ref 535)]) (I1 := I) (T1 := T) rfl ?_
    refine ev_br (p := x6 ≤ 0) (a := 82) (b := 70) (st' := [(.long ((T.1 535 x6.toNatClampNeg) * x3.toInt64)), (.int x6), (.ref 535)]) inferInstance rfl rfl (fun hb => ?_) (fun hb => ?_)
    · have hq := hq.1 hb
      refine ev_seq 1 (ip' := 83) (loc' := [some (.ref 46), some (.int x1), some (.int x2), some (.int x3), some (.int x4), some (.int x5), some (.int x6), none, none, none, none, none, none, none, none]) (st' := [(.long 0), (.long ((T.1 535 x6.toNatClampNeg) * x3.toInt64)), (.int x6), (.ref 535)]) (I1 := I) (T1 := T) rfl ?_
      exact s_M_steady_83 (T := T) hq
    · have hq := hq.2 hb
      refine ev_seq 5 (ip' := 75) (loc' := [some (.ref 46), some (.int x1), some (.int x2), some (.int x3), some (.int x4), some (.int x5), some (.int x6), none, none, none, none, none, none, none, none]) (st' := [(.int (x6 - 1)), (.ref 535), (.long ((T.1 535 x6.toNatClampNeg) * x3.toInt64)), (.int x6), (.ref 535)]) (I1 := I) (T1 := T) rfl ?_
      obtain ⟨hg, hq⟩ := hq
      refine ev_lald rfl rfl hg ?_
      refine ev_seq 6 (ip' := 83) (loc' := [some (.ref 46), some (.int x1), some (.int x2), some (.int x3), some (.int x4), some (.int x5), some (.int x6), none, none, none, none, none, none, none, none]) (st' := [(.long ((T.1 535 (x6 - 1).toNatClampNeg) * ((16 - x3).toInt64))), (.long ((T.1 535 x6.toNatClampNeg) * x3.toInt64)), (.int x6), (.ref 535)]) (I1 := I) (T1 := T) rfl ?_
      exact s_M_steady_83 (T := T) hq
def t_M_steady_51 (E : MEnv) (I : II) (T : TT) (Q : QQ) (x1 : Int32) (x2 : Int32) (x3 : Int32) (x4 : Int32) (x5 : Int32) : Prop := (x1 ≤ x5 → (t_M_steady_99 E I T Q x4 0 (1 <<< ((4 * x1).toInt64 &&& 63)) x2)) ∧ (¬ (x1 ≤ x5) → (t_M_steady_56 E I T Q x1 x2 x3 x4 x5 13))
theorem s_M_steady_51 {E : MEnv} {I : II} {T : TT} {Q : QQ} {x1 : Int32} {x2 : Int32} {x3 : Int32} {x4 : Int32} {x5 : Int32} (hq : t_M_steady_51 E I T Q x1 x2 x3 x4 x5) : ev E 274 51 [some (.ref 46), some (.int x1), some (.int x2), some (.int x3), some (.int x4), some (.int x5), none, none, none, none, none, none, none, none, none] [] I T Q := by
  unfold t_M_steady_51 at hq
  refine ev_seq 2 (ip' := 53) (loc' := [some (.ref 46), some (.int x1), some (.int x2), some (.int x3), some (.int x4), some (.int x5), none, none, none, none, none, none, none, none, none]) (st' := [(.int x1), (.int x5)]) (I1 := I) (T1 := T) rfl ?_
  refine ev_br (p := x1 ≤ x5) (a := 89) (b := 54) (st' := []) inferInstance rfl rfl (fun hb => ?_) (fun hb => ?_)
  · have hq := hq.1 hb
    refine ev_seq 10 (ip' := 99) (loc' := [some (.ref 46), some (.int x1), some (.int x2), some (.int x3), some (.int x4), some (.long 0), none, some (.long (1 <<< ((4 * x1).toInt64 &&& 63))), none, some (.int x2), none, none, none, none, none]) (st' := []) (I1 := I) (T1 := T) rfl ?_
    refine ev_fg [true, false, false, false, true, true, true, true, true, true, true, true, true, true, true] (loc' := [some (.ref 46), none, none, none, some (.int x4), some (.long 0), none, some (.long (1 <<< ((4 * x1).toInt64 &&& 63))), none, some (.int x2), none, none, none, none, none]) rfl ?_
    exact s_M_steady_99 (T := T) hq
  · have hq := hq.2 hb
    refine ev_seq 2 (ip' := 56) (loc' := [some (.ref 46), some (.int x1), some (.int x2), some (.int x3), some (.int x4), some (.int x5), some (.int 13), none, none, none, none, none, none, none, none]) (st' := []) (I1 := I) (T1 := T) rfl ?_
    exact s_M_steady_56 (T := T) hq
def t_M_steady_46 (E : MEnv) (I : II) (T : TT) (Q : QQ) (x1 : Int32) (x2 : Int32) (x3 : Int32) (x4 : Int32) (x5 : Int32) (y1 : Int32) (y2 : Int64) : Prop := (¬ y1 < 0 ∧ y1.toNatClampNeg < 14) ∧ (ev E 274 35 [some (.ref 46), some (.int x1), some (.int x2), some (.int x3), some (.int x4), some (.int (x5 + 1)), none, none, none, none, none, none, none, none, none] [] I (m_up T.1 535 y1.toNatClampNeg y2, T.2) Q)
theorem s_M_steady_46 {E : MEnv} {I : II} {T : TT} {Q : QQ} {x1 : Int32} {x2 : Int32} {x3 : Int32} {x4 : Int32} {x5 : Int32} {y1 : Int32} {y2 : Int64} (hq : t_M_steady_46 E I T Q x1 x2 x3 x4 x5 y1 y2) : ev E 274 46 [some (.ref 46), some (.int x1), some (.int x2), some (.int x3), some (.int x4), some (.int x5), none, none, none, none, none, none, none, none, none] [(.long y2), (.int y1), (.ref 535)] I T Q := by
  unfold t_M_steady_46 at hq
  obtain ⟨hg, hq⟩ := hq
  refine ev_last rfl rfl hg ?_
  refine ev_seq 2 (ip' := 35) (loc' := [some (.ref 46), some (.int x1), some (.int x2), some (.int x3), some (.int x4), some (.int (x5 + 1)), none, none, none, none, none, none, none, none, none]) (st' := []) (I1 := I) (T1 := (m_up T.1 535 y1.toNatClampNeg y2, T.2)) rfl ?_
  exact hq
def t_M_steady_35 (E : MEnv) (I : II) (T : TT) (Q : QQ) (x1 : Int32) (x2 : Int32) (x3 : Int32) (x4 : Int32) (x5 : Int32) : Prop := (14 ≤ x5 → (t_M_steady_51 E I T Q x1 x2 x3 x4 0)) ∧ (¬ (14 ≤ x5) → ((x5 = 0 → (t_M_steady_46 E I T Q x1 x2 x3 x4 x5 x5 1)) ∧ (¬ (x5 = 0) → (t_M_steady_46 E I T Q x1 x2 x3 x4 x5 x5 0))))
theorem s_M_steady_35 {E : MEnv} {I : II} {T : TT} {Q : QQ} {x1 : Int32} {x2 : Int32} {x3 : Int32} {x4 : Int32} {x5 : Int32} (hq : t_M_steady_35 E I T Q x1 x2 x3 x4 x5) : ev E 274 35 [some (.ref 46), some (.int x1), some (.int x2), some (.int x3), some (.int x4), some (.int x5), none, none, none, none, none, none, none, none, none] [] I T Q := by
  unfold t_M_steady_35 at hq
  refine ev_seq 2 (ip' := 37) (loc' := [some (.ref 46), some (.int x1), some (.int x2), some (.int x3), some (.int x4), some (.int x5), none, none, none, none, none, none, none, none, none]) (st' := [(.int 14), (.int x5)]) (I1 := I) (T1 := T) rfl ?_
  refine ev_br (p := 14 ≤ x5) (a := 49) (b := 38) (st' := []) inferInstance rfl rfl (fun hb => ?_) (fun hb => ?_)
  · have hq := hq.1 hb
    refine ev_seq 2 (ip' := 51) (loc' := [some (.ref 46), some (.int x1), some (.int x2), some (.int x3), some (.int x4), some (.int 0), none, none, none, none, none, none, none, none, none]) (st' := []) (I1 := I) (T1 := T) rfl ?_
    exact s_M_steady_51 (T := T) hq
  · have hq := hq.2 hb
    refine ev_seq 4 (ip' := 42) (loc' := [some (.ref 46), some (.int x1), some (.int x2), some (.int x3), some (.int x4), some (.int x5), none, none, none, none, none, none, none, none, none]) (st' := [(.int x5), (.int x5), (.ref 535)]) (I1 := I) (T1 := T) rfl ?_
    refine ev_br (p := x5 = 0) (a := 43) (b := 45) (st' := [(.int x5), (.ref 535)]) inferInstance rfl rfl (fun hb => ?_) (fun hb => ?_)
    · have hq := hq.1 hb
      refine ev_seq 2 (ip' := 46) (loc' := [some (.ref 46), some (.int x1), some (.int x2), some (.int x3), some (.int x4), some (.int x5), none, none, none, none, none, none, none, none, none]) (st' := [(.long 1), (.int x5), (.ref 535)]) (I1 := I) (T1 := T) rfl ?_
      exact s_M_steady_46 (T := T) hq
    · have hq := hq.2 hb
      refine ev_seq 1 (ip' := 46) (loc' := [some (.ref 46), some (.int x1), some (.int x2), some (.int x3), some (.int x4), some (.int x5), none, none, none, none, none, none, none, none, none]) (st' := [(.long 0), (.int x5), (.ref 535)]) (I1 := I) (T1 := T) rfl ?_
      exact s_M_steady_46 (T := T) hq
def t_M_steady_27 (E : MEnv) (I : II) (T : TT) (Q : QQ) (x1 : Int32) (x2 : Int32) (x3 : Int32) (x4 : Int32) (y1 : Int32) : Prop := ev E 58 0 [some (.ref 46), some (.int y1), some (.int 1), some (.int 1)] [] I T (KI (fun v1 I1 T1 => (v1 = 0 → (t_M_steady_35 E I1 T1 Q x1 x2 x3 x4 0)) ∧ (¬ (v1 = 0) → (Q (.inl (some (.long 0))) I1 T1))) (fun x I1 T1 => Q (.inr x) I1 T1))
theorem s_M_steady_27 {E : MEnv} {I : II} {T : TT} {Q : QQ} {x1 : Int32} {x2 : Int32} {x3 : Int32} {x4 : Int32} {y1 : Int32} (hq : t_M_steady_27 E I T Q x1 x2 x3 x4 y1) : ev E 274 27 [some (.ref 46), some (.int x1), some (.int x2), some (.int x3), some (.int x4), none, none, none, none, none, none, none, none, none, none] [(.int y1), (.ref 46)] I T Q := by
  unfold t_M_steady_27 at hq
  refine ev_seq 2 (ip' := 29) (loc' := [some (.ref 46), some (.int x1), some (.int x2), some (.int x3), some (.int x4), none, none, none, none, none, none, none, none, none, none]) (st' := [(.int 1), (.int 1), (.int y1), (.ref 46)]) (I1 := I) (T1 := T) rfl ?_
  refine ev_callI rfl rfl rfl (fun v1 I1 T1 hq => ?_) (fun x I1 T1 hq => ?_) hq
  · refine ev_br (p := v1 = 0) (a := 33) (b := 31) (st' := []) inferInstance rfl rfl (fun hb => ?_) (fun hb => ?_)
    · have hq := hq.1 hb
      refine ev_seq 2 (ip' := 35) (loc' := [some (.ref 46), some (.int x1), some (.int x2), some (.int x3), some (.int x4), some (.int 0), none, none, none, none, none, none, none, none, none]) (st' := []) (I1 := I1) (T1 := T1) rfl ?_
      exact s_M_steady_35 (T := T1) hq
    · have hq := hq.2 hb
      refine ev_seq 1 (ip' := 32) (loc' := [some (.ref 46), some (.int x1), some (.int x2), some (.int x3), some (.int x4), none, none, none, none, none, none, none, none, none, none]) (st' := [(.long 0)]) (I1 := I1) (T1 := T1) rfl ?_
      exact ev_ret rfl rfl hq
  · exact ⟨by decide, hq⟩
def t_M_steady_24 (E : MEnv) (I : II) (T : TT) (Q : QQ) (x1 : Int32) (x2 : Int32) (x3 : Int32) (x4 : Int32) : Prop := t_M_steady_27 E I T Q x1 x2 x3 x4 1
theorem s_M_steady_24 {E : MEnv} {I : II} {T : TT} {Q : QQ} {x1 : Int32} {x2 : Int32} {x3 : Int32} {x4 : Int32} (hq : t_M_steady_24 E I T Q x1 x2 x3 x4) : ev E 274 24 [some (.ref 46), some (.int x1), some (.int x2), some (.int x3), some (.int x4), none, none, none, none, none, none, none, none, none, none] [(.ref 46)] I T Q := by
  unfold t_M_steady_24 at hq
  refine ev_seq 2 (ip' := 27) (loc' := [some (.ref 46), some (.int x1), some (.int x2), some (.int x3), some (.int x4), none, none, none, none, none, none, none, none, none, none]) (st' := [(.int 1), (.ref 46)]) (I1 := I) (T1 := T) rfl ?_
  exact s_M_steady_27 (T := T) hq
def t_M_steady_0 (E : MEnv) (I : II) (T : TT) (Q : QQ) (x1 : Int32) (x2 : Int32) (x3 : Int32) (x4 : Int32) : Prop := ev E 57 0 [some (.int x1), some (.int 0), some (.int 12)] [] (m_up I 46 0 0) T (KI (fun v1 I1 T1 => (v1 = 0 → (t_M_steady_24 E I1 T1 Q x1 x2 x3 x4)) ∧ (¬ (v1 = 0) → (ev E 57 0 [some (.int x2), some (.int 0), some (.int 13)] [] I1 T1 (KI (fun v2 I2 T2 => (v2 = 0 → (t_M_steady_24 E I2 T2 Q x1 x2 x3 x4)) ∧ (¬ (v2 = 0) → (ev E 57 0 [some (.int x3), some (.int 0), some (.int 16)] [] I2 T2 (KI (fun v3 I3 T3 => (v3 = 0 → (t_M_steady_24 E I3 T3 Q x1 x2 x3 x4)) ∧ (¬ (v3 = 0) → (ev E 57 0 [some (.int x4), some (.int 0), some (.int 1)] [] I3 T3 (KI (fun v4 I4 T4 => (v4 = 0 → (t_M_steady_24 E I4 T4 Q x1 x2 x3 x4)) ∧ (¬ (v4 = 0) → (t_M_steady_27 E I4 T4 Q x1 x2 x3 x4 0))) (fun _ _ _ => False))))) (fun _ _ _ => False))))) (fun _ _ _ => False))))) (fun _ _ _ => False))
theorem s_M_steady_0 {E : MEnv} {I : II} {T : TT} {Q : QQ} {x1 : Int32} {x2 : Int32} {x3 : Int32} {x4 : Int32} (hq : t_M_steady_0 E I T Q x1 x2 x3 x4) : ev E 274 0 [some (.ref 46), some (.int x1), some (.int x2), some (.int x3), some (.int x4), none, none, none, none, none, none, none, none, none, none] [] I T Q := by
  unfold t_M_steady_0 at hq
  refine ev_seq 7 (ip' := 7) (loc' := [some (.ref 46), some (.int x1), some (.int x2), some (.int x3), some (.int x4), none, none, none, none, none, none, none, none, none, none]) (st' := [(.int 12), (.int 0), (.int x1), (.ref 46)]) (I1 := m_up I 46 0 0) (T1 := T) rfl ?_
  refine ev_callI rfl rfl rfl (fun v1 I1 T1 hq => ?_) (fun x I1 T1 hq => ?_) hq
  · refine ev_br (p := v1 = 0) (a := 24) (b := 9) (st' := [(.ref 46)]) inferInstance rfl rfl (fun hb => ?_) (fun hb => ?_)
    · have hq := hq.1 hb
      exact s_M_steady_24 (T := T1) hq
    · have hq := hq.2 hb
      refine ev_seq 3 (ip' := 12) (loc' := [some (.ref 46), some (.int x1), some (.int x2), some (.int x3), some (.int x4), none, none, none, none, none, none, none, none, none, none]) (st' := [(.int 13), (.int 0), (.int x2), (.ref 46)]) (I1 := I1) (T1 := T1) rfl ?_
      refine ev_callI rfl rfl rfl (fun v2 I2 T2 hq => ?_) (fun x I1 T1 hq => ?_) hq
      · refine ev_br (p := v2 = 0) (a := 24) (b := 14) (st' := [(.ref 46)]) inferInstance rfl rfl (fun hb => ?_) (fun hb => ?_)
        · have hq := hq.1 hb
          exact s_M_steady_24 (T := T2) hq
        · have hq := hq.2 hb
          refine ev_seq 3 (ip' := 17) (loc' := [some (.ref 46), some (.int x1), some (.int x2), some (.int x3), some (.int x4), none, none, none, none, none, none, none, none, none, none]) (st' := [(.int 16), (.int 0), (.int x3), (.ref 46)]) (I1 := I2) (T1 := T2) rfl ?_
          refine ev_callI rfl rfl rfl (fun v3 I3 T3 hq => ?_) (fun x I1 T1 hq => ?_) hq
          · refine ev_br (p := v3 = 0) (a := 24) (b := 19) (st' := [(.ref 46)]) inferInstance rfl rfl (fun hb => ?_) (fun hb => ?_)
            · have hq := hq.1 hb
              exact s_M_steady_24 (T := T3) hq
            · have hq := hq.2 hb
              refine ev_seq 3 (ip' := 22) (loc' := [some (.ref 46), some (.int x1), some (.int x2), some (.int x3), some (.int x4), none, none, none, none, none, none, none, none, none, none]) (st' := [(.int 1), (.int 0), (.int x4), (.ref 46)]) (I1 := I3) (T1 := T3) rfl ?_
              refine ev_callI rfl rfl rfl (fun v4 I4 T4 hq => ?_) (fun x I1 T1 hq => ?_) hq
              · refine ev_br (p := v4 = 0) (a := 24) (b := 26) (st' := [(.ref 46)]) inferInstance rfl rfl (fun hb => ?_) (fun hb => ?_)
                · have hq := hq.1 hb
                  exact s_M_steady_24 (T := T4) hq
                · have hq := hq.2 hb
                  refine ev_seq 1 (ip' := 27) (loc' := [some (.ref 46), some (.int x1), some (.int x2), some (.int x3), some (.int x4), none, none, none, none, none, none, none, none, none, none]) (st' := [(.int 0), (.ref 46)]) (I1 := I4) (T1 := T4) rfl ?_
                  exact s_M_steady_27 (T := T4) hq
              · exact hq.elim
          · exact hq.elim
      · exact hq.elim
  · exact hq.elim
/-- FeltHarnessModel.stepHere()I -/
def t_M_stepHere_78 (E : MEnv) (I : II) (T : TT) (Q : QQ) (y0 : Int32) : Prop := Q (.inl (some (.int y0))) I T
theorem s_M_stepHere_78 {E : MEnv} {I : II} {T : TT} {Q : QQ} {y0 : Int32} (hq : t_M_stepHere_78 E I T Q y0) : ev E 146 78 [none] [(.int y0)] I T Q := by
  unfold t_M_stepHere_78 at hq
  exact ev_ret rfl rfl hq
def t_M_stepHere_0 (E : MEnv) (I : II) (T : TT) (Q : QQ) : Prop := ev E 67 0 [some (.ref 46), some (.int 16), some (.int 21), some (.int 20), some (.int 0), some (.int 0), some (.int 0)] [] I T (KI (fun v1 I1 T1 => (v1 = 0 → (ev E 67 0 [some (.ref 46), some (.int 15), some (.int 21), some (.int 20), some (.int 0), some (.int 0), some (.int 0)] [] I1 T1 (KI (fun v2 I2 T2 => (v2 = 0 → (ev E 67 0 [some (.ref 46), some (.int 4), some (.int 18), some (.int 1), some (.int 23), some (.int 0), some (.int 0)] [] I2 T2 (KI (fun v3 I3 T3 => (v3 = 0 → (ev E 67 0 [some (.ref 46), some (.int 4), some (.int 18), some (.int 9), some (.int 22), some (.int 5), some (.int 0)] [] I3 T3 (KI (fun v4 I4 T4 => (v4 = 0 → (ev E 67 0 [some (.ref 46), some (.int 8), some (.int 15), some (.int 13), some (.int 5), some (.int 0), some (.int 0)] [] I4 T4 (KI (fun v5 I5 T5 => (v5 = 0 → (ev E 67 0 [some (.ref 46), some (.int 18), some (.int 5), some (.int 19), some (.int 20), some (.int 0), some (.int 0)] [] I5 T5 (KI (fun v6 I6 T6 => (v6 = 0 → (ev E 67 0 [some (.ref 46), some (.int 1), some (.int 7), some (.int 1), some (.int 9), some (.int 14), some (.int 0)] [] I6 T6 (KI (fun v7 I7 T7 => (v7 = 0 → (t_M_stepHere_78 E I7 T7 Q (-1))) ∧ (¬ (v7 = 0) → (t_M_stepHere_78 E I7 T7 Q 6))) (fun x I1 T1 => Q (.inr x) I1 T1)))) ∧ (¬ (v6 = 0) → (Q (.inl (some (.int 5))) I6 T6))) (fun x I1 T1 => Q (.inr x) I1 T1)))) ∧ (¬ (v5 = 0) → (Q (.inl (some (.int 4))) I5 T5))) (fun x I1 T1 => Q (.inr x) I1 T1)))) ∧ (¬ (v4 = 0) → (Q (.inl (some (.int 3))) I4 T4))) (fun x I1 T1 => Q (.inr x) I1 T1)))) ∧ (¬ (v3 = 0) → (Q (.inl (some (.int 2))) I3 T3))) (fun x I1 T1 => Q (.inr x) I1 T1)))) ∧ (¬ (v2 = 0) → (Q (.inl (some (.int 1))) I2 T2))) (fun x I1 T1 => Q (.inr x) I1 T1)))) ∧ (¬ (v1 = 0) → (Q (.inl (some (.int 0))) I1 T1))) (fun x I1 T1 => Q (.inr x) I1 T1))
theorem s_M_stepHere_0 {E : MEnv} {I : II} {T : TT} {Q : QQ} (hq : t_M_stepHere_0 E I T Q) : ev E 146 0 [some (.ref 46)] [] I T Q := by
  unfold t_M_stepHere_0 at hq
  refine ev_seq 7 (ip' := 7) (loc' := [some (.ref 46)]) (st' := [(.int 0), (.int 0), (.int 0), (.int 20), (.int 21), (.int 16), (.ref 46)]) (I1 := I) (T1 := T) rfl ?_
  refine ev_callI rfl rfl rfl (fun v1 I1 T1 hq => ?_) (fun x I1 T1 hq => ?_) hq
  · refine ev_br (p := v1 = 0) (a := 11) (b := 9) (st' := []) inferInstance rfl rfl (fun hb => ?_) (fun hb => ?_)
    · have hq := hq.1 hb
      refine ev_seq 7 (ip' := 18) (loc' := [some (.ref 46)]) (st' := [(.int 0), (.int 0), (.int 0), (.int 20), (.int 21), (.int 15), (.ref 46)]) (I1 := I1) (T1 := T1) rfl ?_
      refine ev_callI rfl rfl rfl (fun v2 I2 T2 hq => ?_) (fun x I1 T1 hq => ?_) hq
      · refine ev_br (p := v2 = 0) (a := 22) (b := 20) (st' := []) inferInstance rfl rfl (fun hb => ?_) (fun hb => ?_)
        · have hq := hq.1 hb
          refine ev_seq 7 (ip' := 29) (loc' := [some (.ref 46)]) (st' := [(.int 0), (.int 0), (.int 23), (.int 1), (.int 18), (.int 4), (.ref 46)]) (I1 := I2) (T1 := T2) rfl ?_
          refine ev_callI rfl rfl rfl (fun v3 I3 T3 hq => ?_) (fun x I1 T1 hq => ?_) hq
          · refine ev_br (p := v3 = 0) (a := 33) (b := 31) (st' := []) inferInstance rfl rfl (fun hb => ?_) (fun hb => ?_)
            · have hq := hq.1 hb
              refine ev_seq 7 (ip' := 40) (loc' := [some (.ref 46)]) (st' := [(.int 0), (.int 5), (.int 22), (.int 9), (.int 18), (.int 4), (.ref 46)]) (I1 := I3) (T1 := T3) rfl ?_
              refine ev_callI rfl rfl rfl (fun v4 I4 T4 hq => ?_) (fun x I1 T1 hq => ?_) hq
              · refine ev_br (p := v4 = 0) (a := 44) (b := 42) (st' := []) inferInstance rfl rfl (fun hb => ?_) (fun hb => ?_)
                · have hq := hq.1 hb
                  refine ev_seq 7 (ip' := 51) (loc' := [some (.ref 46)]) (st' := [(.int 0), (.int 0), (.int 5), (.int 13), (.int 15), (.int 8), (.ref 46)]) (I1 := I4) (T1 := T4) rfl ?_
                  refine ev_callI rfl rfl rfl (fun v5 I5 T5 hq => ?_) (fun x I1 T1 hq => ?_) hq
                  · refine ev_br (p := v5 = 0) (a := 55) (b := 53) (st' := []) inferInstance rfl rfl (fun hb => ?_) (fun hb => ?_)
                    · have hq := hq.1 hb
                      refine ev_seq 7 (ip' := 62) (loc' := [some (.ref 46)]) (st' := [(.int 0), (.int 0), (.int 20), (.int 19), (.int 5), (.int 18), (.ref 46)]) (I1 := I5) (T1 := T5) rfl ?_
                      refine ev_callI rfl rfl rfl (fun v6 I6 T6 hq => ?_) (fun x I1 T1 hq => ?_) hq
                      · refine ev_br (p := v6 = 0) (a := 66) (b := 64) (st' := []) inferInstance rfl rfl (fun hb => ?_) (fun hb => ?_)
                        · have hq := hq.1 hb
                          refine ev_seq 7 (ip' := 73) (loc' := [some (.ref 46)]) (st' := [(.int 0), (.int 14), (.int 9), (.int 1), (.int 7), (.int 1), (.ref 46)]) (I1 := I6) (T1 := T6) rfl ?_
                          refine ev_callI rfl rfl rfl (fun v7 I7 T7 hq => ?_) (fun x I1 T1 hq => ?_) hq
                          · refine ev_br (p := v7 = 0) (a := 77) (b := 75) (st' := []) inferInstance rfl rfl (fun hb => ?_) (fun hb => ?_)
                            · have hq := hq.1 hb
                              refine ev_seq 1 (ip' := 78) (loc' := [some (.ref 46)]) (st' := [(.int (-1))]) (I1 := I7) (T1 := T7) rfl ?_
                              refine ev_fg [false] (loc' := [none]) rfl ?_
                              exact s_M_stepHere_78 (T := T7) hq
                            · have hq := hq.2 hb
                              refine ev_seq 2 (ip' := 78) (loc' := [some (.ref 46)]) (st' := [(.int 6)]) (I1 := I7) (T1 := T7) rfl ?_
                              refine ev_fg [false] (loc' := [none]) rfl ?_
                              exact s_M_stepHere_78 (T := T7) hq
                          · exact ⟨by decide, hq⟩
                        · have hq := hq.2 hb
                          refine ev_seq 1 (ip' := 65) (loc' := [some (.ref 46)]) (st' := [(.int 5)]) (I1 := I6) (T1 := T6) rfl ?_
                          exact ev_ret rfl rfl hq
                      · exact ⟨by decide, hq⟩
                    · have hq := hq.2 hb
                      refine ev_seq 1 (ip' := 54) (loc' := [some (.ref 46)]) (st' := [(.int 4)]) (I1 := I5) (T1 := T5) rfl ?_
                      exact ev_ret rfl rfl hq
                  · exact ⟨by decide, hq⟩
                · have hq := hq.2 hb
                  refine ev_seq 1 (ip' := 43) (loc' := [some (.ref 46)]) (st' := [(.int 3)]) (I1 := I4) (T1 := T4) rfl ?_
                  exact ev_ret rfl rfl hq
              · exact ⟨by decide, hq⟩
            · have hq := hq.2 hb
              refine ev_seq 1 (ip' := 32) (loc' := [some (.ref 46)]) (st' := [(.int 2)]) (I1 := I3) (T1 := T3) rfl ?_
              exact ev_ret rfl rfl hq
          · exact ⟨by decide, hq⟩
        · have hq := hq.2 hb
          refine ev_seq 1 (ip' := 21) (loc' := [some (.ref 46)]) (st' := [(.int 1)]) (I1 := I2) (T1 := T2) rfl ?_
          exact ev_ret rfl rfl hq
      · exact ⟨by decide, hq⟩
    · have hq := hq.2 hb
      refine ev_seq 1 (ip' := 10) (loc' := [some (.ref 46)]) (st' := [(.int 0)]) (I1 := I1) (T1 := T1) rfl ?_
      exact ev_ret rfl rfl hq
  · exact ⟨by decide, hq⟩
/-- FeltHarnessModel.sum()V -/
def t_M_sum_18 (E : MEnv) (I : II) (T : TT) (Q : QQ) (y0 : Int32) : Prop := (y0 = (-1) → (Q (.inl none) I T)) ∧ (¬ (y0 = (-1)) → (ev E 87 0 [some (.ref 46), none] [] I T (KV (fun I1 T1 => ev E 90 0 [some (.ref 46), some (.int y0), some (.int 0)] [] I1 T1 (KV (fun I2 T2 => ev E 86 2 [some (.ref 46), none] [] I2 T2 Q) (fun x I1 T1 => Q (.inr x) I1 T1))) (fun x I1 T1 => Q (.inr x) I1 T1))))
theorem s_M_sum_18 {E : MEnv} {I : II} {T : TT} {Q : QQ} {y0 : Int32} (hq : t_M_sum_18 E I T Q y0) : ev E 86 18 [some (.ref 46), none] [(.int y0)] I T Q := by
  unfold t_M_sum_18 at hq
  refine ev_seq 3 (ip' := 21) (loc' := [some (.ref 46), some (.int y0)]) (st' := [(.int (-1)), (.int y0)]) (I1 := I) (T1 := T) rfl ?_
  refine ev_br (p := y0 = (-1)) (a := 22) (b := 23) (st' := []) inferInstance rfl rfl (fun hb => ?_) (fun hb => ?_)
  · have hq := hq.1 hb
    exact ev_ret rfl rfl hq
  · have hq := hq.2 hb
    refine ev_seq 1 (ip' := 24) (loc' := [some (.ref 46), some (.int y0)]) (st' := [(.ref 46)]) (I1 := I) (T1 := T) rfl ?_
    refine ev_callV rfl rfl rfl (fun I1 T1 hq => ?_) (fun x I1 T1 hq => ?_) hq
    · refine ev_seq 3 (ip' := 28) (loc' := [some (.ref 46), some (.int y0)]) (st' := [(.int 0), (.int y0), (.ref 46)]) (I1 := I1) (T1 := T1) rfl ?_
      refine ev_callV rfl rfl rfl (fun I2 T2 hq => ?_) (fun x I1 T1 hq => ?_) hq
      · refine ev_seq 1 (ip' := 2) (loc' := [some (.ref 46), some (.int y0)]) (st' := []) (I1 := I2) (T1 := T2) rfl ?_
        refine ev_fg [true, false] (loc' := [some (.ref 46), none]) rfl ?_
        exact hq
      · exact ⟨by decide, hq⟩
    · exact ⟨by decide, hq⟩
def t_M_sum_2 (E : MEnv) (I : II) (T : TT) (Q : QQ) : Prop := ((I 46 5) = 0 → (ev E 93 0 [some (.ref 46), some (.int 43), none] [] I T (KI (fun v1 I1 T1 => (v1 = 0 → (ev E 93 0 [some (.ref 46), some (.int 45), none] [] I1 T1 (KI (fun v2 I2 T2 => (v2 = 0 → (t_M_sum_18 E I2 T2 Q (-1))) ∧ (¬ (v2 = 0) → (t_M_sum_18 E I2 T2 Q 3))) (fun x I1 T1 => Q (.inr x) I1 T1)))) ∧ (¬ (v1 = 0) → (t_M_sum_18 E I1 T1 Q 2))) (fun x I1 T1 => Q (.inr x) I1 T1)))) ∧ (¬ ((I 46 5) = 0) → (Q (.inl none) I T))
theorem s_M_sum_2 {E : MEnv} {I : II} {T : TT} {Q : QQ} (hq : t_M_sum_2 E I T Q) : ev E 86 2 [some (.ref 46), none] [] I T Q := by
  unfold t_M_sum_2 at hq
  refine ev_seq 2 (ip' := 4) (loc' := [some (.ref 46), none]) (st' := [(.int (I 46 5))]) (I1 := I) (T1 := T) rfl ?_
  refine ev_br (p := (I 46 5) = 0) (a := 5) (b := 30) (st' := []) inferInstance rfl rfl (fun hb => ?_) (fun hb => ?_)
  · have hq := hq.1 hb
    refine ev_seq 2 (ip' := 7) (loc' := [some (.ref 46), none]) (st' := [(.int 43), (.ref 46)]) (I1 := I) (T1 := T) rfl ?_
    refine ev_callI rfl rfl rfl (fun v1 I1 T1 hq => ?_) (fun x I1 T1 hq => ?_) hq
    · refine ev_br (p := v1 = 0) (a := 11) (b := 9) (st' := []) inferInstance rfl rfl (fun hb => ?_) (fun hb => ?_)
      · have hq := hq.1 hb
        refine ev_seq 2 (ip' := 13) (loc' := [some (.ref 46), none]) (st' := [(.int 45), (.ref 46)]) (I1 := I1) (T1 := T1) rfl ?_
        refine ev_callI rfl rfl rfl (fun v2 I2 T2 hq => ?_) (fun x I1 T1 hq => ?_) hq
        · refine ev_br (p := v2 = 0) (a := 17) (b := 15) (st' := []) inferInstance rfl rfl (fun hb => ?_) (fun hb => ?_)
          · have hq := hq.1 hb
            refine ev_seq 1 (ip' := 18) (loc' := [some (.ref 46), none]) (st' := [(.int (-1))]) (I1 := I2) (T1 := T2) rfl ?_
            exact s_M_sum_18 (T := T2) hq
          · have hq := hq.2 hb
            refine ev_seq 2 (ip' := 18) (loc' := [some (.ref 46), none]) (st' := [(.int 3)]) (I1 := I2) (T1 := T2) rfl ?_
            exact s_M_sum_18 (T := T2) hq
        · exact ⟨by decide, hq⟩
      · have hq := hq.2 hb
        refine ev_seq 2 (ip' := 18) (loc' := [some (.ref 46), none]) (st' := [(.int 2)]) (I1 := I1) (T1 := T1) rfl ?_
        exact s_M_sum_18 (T := T1) hq
    · exact ⟨by decide, hq⟩
  · have hq := hq.2 hb
    exact ev_ret rfl rfl hq
def t_M_sum_0 (E : MEnv) (I : II) (T : TT) (Q : QQ) : Prop := ev E 87 0 [some (.ref 46), none] [] I T (KV (fun I1 T1 => t_M_sum_2 E I1 T1 Q ) (fun x I1 T1 => Q (.inr x) I1 T1))
theorem s_M_sum_0 {E : MEnv} {I : II} {T : TT} {Q : QQ} (hq : t_M_sum_0 E I T Q) : ev E 86 0 [some (.ref 46), none] [] I T Q := by
  unfold t_M_sum_0 at hq
  refine ev_seq 1 (ip' := 1) (loc' := [some (.ref 46), none]) (st' := [(.ref 46)]) (I1 := I) (T1 := T) rfl ?_
  refine ev_callV rfl rfl rfl (fun I1 T1 hq => ?_) (fun x I1 T1 hq => ?_) hq
  · exact s_M_sum_2 (T := T1) hq
  · exact ⟨by decide, hq⟩
/-- FeltHarnessModel.swap(I)I -/
def t_M_swap_114 (E : MEnv) (I : II) (T : TT) (Q : QQ) (y0 : Int32) : Prop := Q (.inl (some (.int y0))) I T
theorem s_M_swap_114 {E : MEnv} {I : II} {T : TT} {Q : QQ} {y0 : Int32} (hq : t_M_swap_114 E I T Q y0) : ev E 246 114 [none, none, none, none, none, none, none] [(.int y0)] I T Q := by
  unfold t_M_swap_114 at hq
  exact ev_ret rfl rfl hq
def t_M_swap_111 (E : MEnv) (I : II) (T : TT) (Q : QQ) (x2 : Int32) : Prop := t_M_swap_114 E I T Q x2
theorem s_M_swap_111 {E : MEnv} {I : II} {T : TT} {Q : QQ} {x2 : Int32} (hq : t_M_swap_111 E I T Q x2) : ev E 246 111 [none, none, some (.int x2), none, none, none, none] [] I T Q := by
  unfold t_M_swap_111 at hq
  refine ev_seq 2 (ip' := 114) (loc' := [none, none, some (.int x2), none, none, none, none]) (st' := [(.int x2)]) (I1 := I) (T1 := T) rfl ?_
  refine ev_fg [true, true, false, true, true, true, true] (loc' := [none, none, none, none, none, none, none]) rfl ?_
  exact s_M_swap_114 (T := T) hq
def t_M_swap_102 (E : MEnv) (I : II) (T : TT) (Q : QQ) (x1 : Int32) (x2 : Int32) (x3 : Int32) (x4 : Int32) (x5 : Int32) : Prop := ev E 246 34 [some (.ref 46), some (.int x1), some (.int x2), some (.int x3), some (.int x4), some (.int (x5 + 1)), none] [] I T Q
theorem s_M_swap_102 {E : MEnv} {I : II} {T : TT} {Q : QQ} {x1 : Int32} {x2 : Int32} {x3 : Int32} {x4 : Int32} {x5 : Int32} (hq : t_M_swap_102 E I T Q x1 x2 x3 x4 x5) : ev E 246 102 [some (.ref 46), some (.int x1), some (.int x2), some (.int x3), some (.int x4), some (.int x5), none] [] I T Q := by
  unfold t_M_swap_102 at hq
  refine ev_seq 2 (ip' := 34) (loc' := [some (.ref 46), some (.int x1), some (.int x2), some (.int x3), some (.int x4), some (.int (x5 + 1)), none]) (st' := []) (I1 := I) (T1 := T) rfl ?_
  exact hq
def t_M_swap_81 (E : MEnv) (I : II) (T : TT) (Q : QQ) (x1 : Int32) (x2 : Int32) (x3 : Int32) (x4 : Int32) (x5 : Int32) (x6 : Int32) (y1 : Int32) (y2 : Int32) : Prop := (¬ y1 < 0 ∧ y1.toNatClampNeg < 29) ∧ (ev E 246 44 [some (.ref 46), some (.int x1), some (.int x2), some (.int x3), some (.int x4), some (.int x5), some (.int (x6 + 1))] [] (m_up I 509 y1.toNatClampNeg y2) T Q)
theorem s_M_swap_81 {E : MEnv} {I : II} {T : TT} {Q : QQ} {x1 : Int32} {x2 : Int32} {x3 : Int32} {x4 : Int32} {x5 : Int32} {x6 : Int32} {y1 : Int32} {y2 : Int32} (hq : t_M_swap_81 E I T Q x1 x2 x3 x4 x5 x6 y1 y2) : ev E 246 81 [some (.ref 46), some (.int x1), some (.int x2), some (.int x3), some (.int x4), some (.int x5), some (.int x6)] [(.int y2), (.int y1), (.ref 509)] I T Q := by
  unfold t_M_swap_81 at hq
  obtain ⟨hg, hq⟩ := hq
  refine ev_iast rfl rfl hg ?_
  refine ev_seq 2 (ip' := 44) (loc' := [some (.ref 46), some (.int x1), some (.int x2), some (.int x3), some (.int x4), some (.int x5), some (.int (x6 + 1))]) (st' := []) (I1 := m_up I 509 y1.toNatClampNeg y2) (T1 := T) rfl ?_
  exact hq
def t_M_swap_44 (E : MEnv) (I : II) (T : TT) (Q : QQ) (x1 : Int32) (x2 : Int32) (x3 : Int32) (x4 : Int32) (x5 : Int32) (x6 : Int32) : Prop := ((I 50 0) ≤ x6 → (ev E 164 0 [some (.ref 46), some (.ref 509), none] [] I T (KI (fun v1 I1 T1 => (v1 < x3 → (ev E 164 0 [some (.ref 46), some (.ref 509), none] [] I1 T1 (KI (fun v2 I2 T2 => t_M_swap_102 E I2 T2 Q x1 ((10 * x4) + x5) v2 x4 x5) (fun x I1 T1 => Q (.inr x) I1 T1)))) ∧ (¬ (v1 < x3) → (t_M_swap_102 E I1 T1 Q x1 x2 x3 x4 x5))) (fun x I1 T1 => Q (.inr x) I1 T1)))) ∧ (¬ ((I 50 0) ≤ x6) → ((¬ (0 + x6) < 0 ∧ (0 + x6).toNatClampNeg < 29) ∧ (((I 508 (0 + x6).toNatClampNeg) = x4 → (t_M_swap_81 E I T Q x1 x2 x3 x4 x5 x6 (0 + x6) x5)) ∧ (¬ ((I 508 (0 + x6).toNatClampNeg) = x4) → ((¬ (0 + x6) < 0 ∧ (0 + x6).toNatClampNeg < 29) ∧ (((I 508 (0 + x6).toNatClampNeg) = x5 → (t_M_swap_81 E I T Q x1 x2 x3 x4 x5 x6 (0 + x6) x4)) ∧ (¬ ((I 508 (0 + x6).toNatClampNeg) = x5) → ((¬ (0 + x6) < 0 ∧ (0 + x6).toNatClampNeg < 29) ∧ (t_M_swap_81 E I T Q x1 x2 x3 x4 x5 x6 (0 + x6) (I 508 (0 + x6).toNatClampNeg))))))))))
theorem s_M_swap_44 {E : MEnv} {I : II} {T : TT} {Q : QQ} {x1 : Int32} {x2 : Int32} {x3 : Int32} {x4 : Int32} {x5 : Int32} {x6 : Int32} (hq : t_M_swap_44 E I T Q x1 x2 x3 x4 x5 x6) : ev E 246 44 [some (.ref 46), some (.int x1), some (.int x2), some (.int x3), some (.int x4), some (.int x5), some (.int x6)] [] I T Q := by
  unfold t_M_swap_44 at hq
  refine ev_seq 5 (ip' := 49) (loc' := [some (.ref 46), some (.int x1), some (.int x2), some (.int x3), some (.int x4), some (.int x5), some (.int x6)]) (st' := [(.int (I 50 0)), (.int x6)]) (I1 := I) (T1 := T) rfl ?_
  refine ev_br (p := (I 50 0) ≤ x6) (a := 84) (b := 50) (st' := []) inferInstance rfl rfl (fun hb => ?_) (fun hb => ?_)
  · have hq := hq.1 hb
    refine ev_seq 3 (ip' := 87) (loc' := [some (.ref 46), some (.int x1), some (.int x2), some (.int x3), some (.int x4), some (.int x5), some (.int x6)]) (st' := [(.ref 509), (.ref 46)]) (I1 := I) (T1 := T) rfl ?_
    refine ev_callI rfl rfl rfl (fun v1 I1 T1 hq => ?_) (fun x I1 T1 hq => ?_) hq
    · refine ev_seq 1 (ip' := 89) (loc' := [some (.ref 46), some (.int x1), some (.int x2), some (.int x3), some (.int x4), some (.int x5), some (.int x6)]) (st' := [(.int x3), (.int v1)]) (I1 := I1) (T1 := T1) rfl ?_
      refine ev_br (p := v1 < x3) (a := 91) (b := 90) (st' := []) inferInstance rfl rfl (fun hb => ?_) (fun hb => ?_)
      · have hq := hq.1 hb
        refine ev_seq 9 (ip' := 100) (loc' := [some (.ref 46), some (.int x1), some (.int ((10 * x4) + x5)), some (.int x3), some (.int x4), some (.int x5), some (.int x6)]) (st' := [(.ref 509), (.ref 46)]) (I1 := I1) (T1 := T1) rfl ?_
        refine ev_callI rfl rfl rfl (fun v2 I2 T2 hq => ?_) (fun x I1 T1 hq => ?_) hq
        · refine ev_seq 1 (ip' := 102) (loc' := [some (.ref 46), some (.int x1), some (.int ((10 * x4) + x5)), some (.int v2), some (.int x4), some (.int x5), some (.int x6)]) (st' := []) (I1 := I2) (T1 := T2) rfl ?_
          refine ev_fg [true, true, true, true, true, true, false] (loc' := [some (.ref 46), some (.int x1), some (.int ((10 * x4) + x5)), some (.int v2), some (.int x4), some (.int x5), none]) rfl ?_
          exact s_M_swap_102 (T := T2) hq
        · exact ⟨by decide, hq⟩
      · have hq := hq.2 hb
        refine ev_seq 1 (ip' := 102) (loc' := [some (.ref 46), some (.int x1), some (.int x2), some (.int x3), some (.int x4), some (.int x5), some (.int x6)]) (st' := []) (I1 := I1) (T1 := T1) rfl ?_
        refine ev_fg [true, true, true, true, true, true, false] (loc' := [some (.ref 46), some (.int x1), some (.int x2), some (.int x3), some (.int x4), some (.int x5), none]) rfl ?_
        exact s_M_swap_102 (T := T1) hq
    · exact ⟨by decide, hq⟩
  · have hq := hq.2 hb
    refine ev_seq 10 (ip' := 60) (loc' := [some (.ref 46), some (.int x1), some (.int x2), some (.int x3), some (.int x4), some (.int x5), some (.int x6)]) (st' := [(.int (0 + x6)), (.ref 508), (.int (0 + x6)), (.ref 509)]) (I1 := I) (T1 := T) rfl ?_
    obtain ⟨hg, hq⟩ := hq
    refine ev_iald rfl rfl hg ?_
    refine ev_seq 1 (ip' := 62) (loc' := [some (.ref 46), some (.int x1), some (.int x2), some (.int x3), some (.int x4), some (.int x5), some (.int x6)]) (st' := [(.int x4), (.int (I 508 (0 + x6).toNatClampNeg)), (.int (0 + x6)), (.ref 509)]) (I1 := I) (T1 := T) rfl ?_
    refine ev_br (p := (I 508 (0 + x6).toNatClampNeg) = x4) (a := 63) (b := 65) (st' := [(.int (0 + x6)), (.ref 509)]) inferInstance rfl rfl (fun hb => ?_) (fun hb => ?_)
    · have hq := hq.1 hb
      refine ev_seq 2 (ip' := 81) (loc' := [some (.ref 46), some (.int x1), some (.int x2), some (.int x3), some (.int x4), some (.int x5), some (.int x6)]) (st' := [(.int x5), (.int (0 + x6)), (.ref 509)]) (I1 := I) (T1 := T) rfl ?_
      exact s_M_swap_81 (T := T) hq
    · have hq := hq.2 hb
      refine ev_seq 5 (ip' := 70) (loc' := [some (.ref 46), some (.int x1), some (.int x2), some (.int x3), some (.int x4), some (.int x5), some (.int x6)]) (st' := [(.int (0 + x6)), (.ref 508), (.int (0 + x6)), (.ref 509)]) (I1 := I) (T1 := T) rfl ?_
      obtain ⟨hg, hq⟩ := hq
      refine ev_iald rfl rfl hg ?_
      refine ev_seq 1 (ip' := 72) (loc' := [some (.ref 46), some (.int x1), some (.int x2), some (.int x3), some (.int x4), some (.int x5), some (.int x6)]) (st' := [(.int x5), (.int (I 508 (0 + x6).toNatClampNeg)), (.int (0 + x6)), (.ref 509)]) (I1 := I) (T1 := T) rfl ?_
      refine ev_br (p := (I 508 (0 + x6).toNatClampNeg) = x5) (a := 73) (b := 75) (st' := [(.int (0 + x6)), (.ref 509)]) inferInstance rfl rfl (fun hb => ?_) (fun hb => ?_)
      · have hq := hq.1 hb
        refine ev_seq 2 (ip' := 81) (loc' := [some (.ref 46), some (.int x1), some (.int x2), some (.int x3), some (.int x4), some (.int x5), some (.int x6)]) (st' := [(.int x4), (.int (0 + x6)), (.ref 509)]) (I1 := I) (T1 := T) rfl ?_
        exact s_M_swap_81 (T := T) hq
      · have hq := hq.2 hb
        refine ev_seq 5 (ip' := 80) (loc' := [some (.ref 46), some (.int x1), some (.int x2), some (.int x3), some (.int x4), some (.int x5), some (.int x6)]) (st' := [(.int (0 + x6)), (.ref 508), (.int (0 + x6)), (.ref 509)]) (I1 := I) (T1 := T) rfl ?_
        obtain ⟨hg, hq⟩ := hq
        refine ev_iald rfl rfl hg ?_
        exact s_M_swap_81 (T := T) hq
def t_M_swap_34 (E : MEnv) (I : II) (T : TT) (Q : QQ) (x1 : Int32) (x2 : Int32) (x3 : Int32) (x4 : Int32) (x5 : Int32) : Prop := (4 ≤ x5 → (ev E 246 27 [some (.ref 46), some (.int x1), some (.int x2), some (.int x3), some (.int (x4 + 1)), none, none] [] I T Q)) ∧ (¬ (4 ≤ x5) → (ev E 147 0 [some (.ref 508), some (.ref 509), none] [] I T (KV (fun I1 T1 => t_M_swap_44 E I1 T1 Q x1 x2 x3 x4 x5 0) (fun _ _ _ => False))))
theorem s_M_swap_34 {E : MEnv} {I : II} {T : TT} {Q : QQ} {x1 : Int32} {x2 : Int32} {x3 : Int32} {x4 : Int32} {x5 : Int32} (hq : t_M_swap_34 E I T Q x1 x2 x3 x4 x5) : ev E 246 34 [some (.ref 46), some (.int x1), some (.int x2), some (.int x3), some (.int x4), some (.int x5), none] [] I T Q := by
  unfold t_M_swap_34 at hq
  refine ev_seq 2 (ip' := 36) (loc' := [some (.ref 46), some (.int x1), some (.int x2), some (.int x3), some (.int x4), some (.int x5), none]) (st' := [(.int 4), (.int x5)]) (I1 := I) (T1 := T) rfl ?_
  refine ev_br (p := 4 ≤ x5) (a := 104) (b := 37) (st' := []) inferInstance rfl rfl (fun hb => ?_) (fun hb => ?_)
  · have hq := hq.1 hb
    refine ev_seq 2 (ip' := 27) (loc' := [some (.ref 46), some (.int x1), some (.int x2), some (.int x3), some (.int (x4 + 1)), some (.int x5), none]) (st' := []) (I1 := I) (T1 := T) rfl ?_
    refine ev_fg [true, true, true, true, true, false, true] (loc' := [some (.ref 46), some (.int x1), some (.int x2), some (.int x3), some (.int (x4 + 1)), none, none]) rfl ?_
    exact hq
  · have hq := hq.2 hb
    refine ev_seq 4 (ip' := 41) (loc' := [some (.ref 46), some (.int x1), some (.int x2), some (.int x3), some (.int x4), some (.int x5), none]) (st' := [(.ref 509), (.ref 508)]) (I1 := I) (T1 := T) rfl ?_
    refine ev_callV rfl rfl rfl (fun I1 T1 hq => ?_) (fun x I1 T1 hq => ?_) hq
    · refine ev_seq 2 (ip' := 44) (loc' := [some (.ref 46), some (.int x1), some (.int x2), some (.int x3), some (.int x4), some (.int x5), some (.int 0)]) (st' := []) (I1 := I1) (T1 := T1) rfl ?_
      exact s_M_swap_44 (T := T1) hq
    · exact hq.elim
def t_M_swap_27 (E : MEnv) (I : II) (T : TT) (Q : QQ) (x1 : Int32) (x2 : Int32) (x3 : Int32) (x4 : Int32) : Prop := (4 ≤ x4 → ((x1 = 0 → (t_M_swap_111 E I T Q x2)) ∧ (¬ (x1 = 0) → ((x2 = (-1) → (t_M_swap_111 E I T Q x2)) ∧ (¬ (x2 = (-1)) → (t_M_swap_114 E I T Q x3)))))) ∧ (¬ (4 ≤ x4) → (t_M_swap_34 E I T Q x1 x2 x3 x4 (x4 + 1)))
theorem s_M_swap_27 {E : MEnv} {I : II} {T : TT} {Q : QQ} {x1 : Int32} {x2 : Int32} {x3 : Int32} {x4 : Int32} (hq : t_M_swap_27 E I T Q x1 x2 x3 x4) : ev E 246 27 [some (.ref 46), some (.int x1), some (.int x2), some (.int x3), some (.int x4), none, none] [] I T Q := by
  unfold t_M_swap_27 at hq
  refine ev_seq 2 (ip' := 29) (loc' := [some (.ref 46), some (.int x1), some (.int x2), some (.int x3), some (.int x4), none, none]) (st' := [(.int 4), (.int x4)]) (I1 := I) (T1 := T) rfl ?_
  refine ev_br (p := 4 ≤ x4) (a := 106) (b := 30) (st' := []) inferInstance rfl rfl (fun hb => ?_) (fun hb => ?_)
  · have hq := hq.1 hb
    refine ev_seq 1 (ip' := 107) (loc' := [some (.ref 46), some (.int x1), some (.int x2), some (.int x3), some (.int x4), none, none]) (st' := [(.int x1)]) (I1 := I) (T1 := T) rfl ?_
    refine ev_br (p := x1 = 0) (a := 111) (b := 108) (st' := []) inferInstance rfl rfl (fun hb => ?_) (fun hb => ?_)
    · have hq := hq.1 hb
      refine ev_fg [false, false, true, false, false, true, true] (loc' := [none, none, some (.int x2), none, none, none, none]) rfl ?_
      exact s_M_swap_111 (T := T) hq
    · have hq := hq.2 hb
      refine ev_seq 2 (ip' := 110) (loc' := [some (.ref 46), some (.int x1), some (.int x2), some (.int x3), some (.int x4), none, none]) (st' := [(.int (-1)), (.int x2)]) (I1 := I) (T1 := T) rfl ?_
      refine ev_br (p := x2 = (-1)) (a := 111) (b := 113) (st' := []) inferInstance rfl rfl (fun hb => ?_) (fun hb => ?_)
      · have hq := hq.1 hb
        refine ev_fg [false, false, true, false, false, true, true] (loc' := [none, none, some (.int x2), none, none, none, none]) rfl ?_
        exact s_M_swap_111 (T := T) hq
      · have hq := hq.2 hb
        refine ev_seq 1 (ip' := 114) (loc' := [some (.ref 46), some (.int x1), some (.int x2), some (.int x3), some (.int x4), none, none]) (st' := [(.int x3)]) (I1 := I) (T1 := T) rfl ?_
        refine ev_fg [false, false, false, false, false, true, true] (loc' := [none, none, none, none, none, none, none]) rfl ?_
        exact s_M_swap_114 (T := T) hq
  · have hq := hq.2 hb
    refine ev_seq 4 (ip' := 34) (loc' := [some (.ref 46), some (.int x1), some (.int x2), some (.int x3), some (.int x4), some (.int (x4 + 1)), none]) (st' := []) (I1 := I) (T1 := T) rfl ?_
    exact s_M_swap_34 (T := T) hq
def t_M_swap_12 (E : MEnv) (I : II) (T : TT) (Q : QQ) (x1 : Int32) (y1 : Int32) : Prop := ev E 58 0 [some (.ref 46), some (.int y1), some (.int 1), some (.int 1)] [] I T (KI (fun v1 I1 T1 => (v1 = 0 → (ev E 164 0 [some (.ref 46), some (.ref 508), none] [] I1 T1 (KI (fun v2 I2 T2 => t_M_swap_27 E I2 T2 Q x1 (-1) v2 0) (fun x I1 T1 => Q (.inr x) I1 T1)))) ∧ (¬ (v1 = 0) → (Q (.inl (some (.int 0))) I1 T1))) (fun x I1 T1 => Q (.inr x) I1 T1))
theorem s_M_swap_12 {E : MEnv} {I : II} {T : TT} {Q : QQ} {x1 : Int32} {y1 : Int32} (hq : t_M_swap_12 E I T Q x1 y1) : ev E 246 12 [some (.ref 46), some (.int x1), none, none, none, none, none] [(.int y1), (.ref 46)] I T Q := by
  unfold t_M_swap_12 at hq
  refine ev_seq 2 (ip' := 14) (loc' := [some (.ref 46), some (.int x1), none, none, none, none, none]) (st' := [(.int 1), (.int 1), (.int y1), (.ref 46)]) (I1 := I) (T1 := T) rfl ?_
  refine ev_callI rfl rfl rfl (fun v1 I1 T1 hq => ?_) (fun x I1 T1 hq => ?_) hq
  · refine ev_br (p := v1 = 0) (a := 18) (b := 16) (st' := []) inferInstance rfl rfl (fun hb => ?_) (fun hb => ?_)
    · have hq := hq.1 hb
      refine ev_seq 5 (ip' := 23) (loc' := [some (.ref 46), some (.int x1), some (.int (-1)), none, none, none, none]) (st' := [(.ref 508), (.ref 46)]) (I1 := I1) (T1 := T1) rfl ?_
      refine ev_callI rfl rfl rfl (fun v2 I2 T2 hq => ?_) (fun x I1 T1 hq => ?_) hq
      · refine ev_seq 3 (ip' := 27) (loc' := [some (.ref 46), some (.int x1), some (.int (-1)), some (.int v2), some (.int 0), none, none]) (st' := []) (I1 := I2) (T1 := T2) rfl ?_
        exact s_M_swap_27 (T := T2) hq
      · exact ⟨by decide, hq⟩
    · have hq := hq.2 hb
      refine ev_seq 1 (ip' := 17) (loc' := [some (.ref 46), some (.int x1), none, none, none, none, none]) (st' := [(.int 0)]) (I1 := I1) (T1 := T1) rfl ?_
      exact ev_ret rfl rfl hq
  · exact ⟨by decide, hq⟩
def t_M_swap_0 (E : MEnv) (I : II) (T : TT) (Q : QQ) (x1 : Int32) : Prop := ev E 57 0 [some (.int x1), some (.int 0), some (.int 1)] [] (m_up I 46 0 0) T (KI (fun v1 I1 T1 => (v1 = 0 → (t_M_swap_12 E I1 T1 Q x1 1)) ∧ (¬ (v1 = 0) → (t_M_swap_12 E I1 T1 Q x1 0))) (fun _ _ _ => False))
theorem s_M_swap_0 {E : MEnv} {I : II} {T : TT} {Q : QQ} {x1 : Int32} (hq : t_M_swap_0 E I T Q x1) : ev E 246 0 [some (.ref 46), some (.int x1), none, none, none, none, none] [] I T Q := by
  unfold t_M_swap_0 at hq
  refine ev_seq 7 (ip' := 7) (loc' := [some (.ref 46), some (.int x1), none, none, none, none, none]) (st' := [(.int 1), (.int 0), (.int x1), (.ref 46)]) (I1 := m_up I 46 0 0) (T1 := T) rfl ?_
  refine ev_callI rfl rfl rfl (fun v1 I1 T1 hq => ?_) (fun x I1 T1 hq => ?_) hq
  · refine ev_br (p := v1 = 0) (a := 9) (b := 11) (st' := [(.ref 46)]) inferInstance rfl rfl (fun hb => ?_) (fun hb => ?_)
    · have hq := hq.1 hb
      refine ev_seq 2 (ip' := 12) (loc' := [some (.ref 46), some (.int x1), none, none, none, none, none]) (st' := [(.int 1), (.ref 46)]) (I1 := I1) (T1 := T1) rfl ?_
      exact s_M_swap_12 (T := T1) hq
    · have hq := hq.2 hb
      refine ev_seq 1 (ip' := 12) (loc' := [some (.ref 46), some (.int x1), none, none, none, none, none]) (st' := [(.int 0), (.ref 46)]) (I1 := I1) (T1 := T1) rfl ?_
      exact s_M_swap_12 (T := T1) hq
  · exact hq.elim
