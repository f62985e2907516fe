/-! ===== contracts: the LAW, by the class and by the reference ===== -/
def jn (a : Nat) (u v : Int32) : Int32 := if a = 2 then u + v else if a = 3 then u - v else if a = 4 then u * v else if a = 5 then (if v = 0 then 0 else u / v) else if a = 6 then (if v = 0 then 0 else u - u / v * v) else if a = 7 then (if v ≤ u then v else u) else (if u ≤ v then v else u)
def lstep (vars : Nat → Int32) (c : Nat × Int32) (s : (Nat → Int32) × Nat) : (Nat → Int32) × Nat := if c.1 = 0 then (upd s.1 s.2 c.2, s.2 + 1) else if c.1 = 1 then (upd s.1 s.2 (vars c.2.toNatClampNeg), s.2 + 1) else (upd s.1 (s.2 - 2) (jn c.1 (s.1 (s.2 - 2)) (s.1 (s.2 - 1))), s.2 - 1)
def ccode (c : Nat × Int32) : Int32 := if c.1 = 0 then c.2 else if c.1 = 1 then (-1) - c.2 else (-7) - nI c.1
/-- codes in order: how many values wait -/
def lawW (cd : Nat → Nat × Int32) (n : Nat) (dep : Nat → Nat) : Prop := dep 0 = 0 ∧ 1 ≤ dep n ∧ n ≤ 150 ∧ ∀ k, k < n → ((cd k).1 ≤ 1 ∧ dep (k + 1) = dep k + 1 ∧ dep k < 24 ∧ ∃ v, v < 1000 ∧ (cd k).2 = nI v ∧ ((cd k).1 = 1 → v < 8)) ∨ (2 ≤ (cd k).1 ∧ (cd k).1 ≤ 8 ∧ 2 ≤ dep k ∧ dep k ≤ 24 ∧ dep (k + 1) + 1 = dep k)
def lawC (I : II) (n : Nat) (cd : Nat → Nat × Int32) : Prop := I 15 4 = nI n ∧ ∀ k, k < n → I 16 k = ccode (cd k)
def lawM (I : II) (n : Nat) (cd : Nat → Nat × Int32) : Prop := I 46 19 = nI n ∧ ∀ k, k < n → I (86 + k) 0 = nI (cd k).1 ∧ I (86 + k) 1 = (cd k).2
def lawS (vars : Nat → Int32) (cd : Nat → Nat × Int32) (d k : Nat) (s : (Nat → Int32) × Nat) : (Nat → Int32) × Nat := rep (fun k s => lstep vars (cd k) s) d k s
def clampC (x : Int32) : Int32 := if 0 < (if x < 60 then x else 60) then (if x < 60 then x else 60) else 0
def clampM (x : Int32) : Int32 := if (if 0 ≤ x then x else 0) ≤ 60 then (if 0 ≤ x then x else 0) else 60
theorem clamp_eq (x : Int32) : clampC x = clampM x := by
  have e0 : (0 : Int32).toInt = 0 := rfl
  have e60 : (60 : Int32).toInt = 60 := rfl
  unfold clampC clampM
  by_cases h1 : x < 60
  · have hx : x ≤ 60 := by rw [fa_le, e60]; rw [fa_lt, e60] at h1; omega
    by_cases h2 : 0 ≤ x
    · simp only [if_pos h1, if_pos h2, if_pos hx]
      by_cases h3 : 0 < x
      · simp only [if_pos h3]
      · simp only [if_neg h3]
        rw [fa_eq]
        rw [fa_lt, e0] at h3
        rw [fa_le, e0] at h2
        omega
    · have h3 : ¬ 0 < x := by rw [fa_lt, e0]; rw [fa_le, e0] at h2; omega
      simp only [if_pos h1, if_neg h2, if_neg h3]
      rfl
  · have h1' := h1
    rw [fa_lt, e60] at h1'
    have h2 : 0 ≤ x := by rw [fa_le, e0]; omega
    have h60 : (0 : Int32) < 60 := by decide
    simp only [if_neg h1, if_pos h2, if_pos h60]
    by_cases h3 : x ≤ 60
    · simp only [if_pos h3]
      rw [fa_eq]
      rw [fa_le, e60] at h3
      omega
    · simp only [if_neg h3]
theorem div_m1 (u : Int32) : u / (-1) = 0 - u := by
  rw [fa_eq, Int32.toInt_div, Int32.toInt_sub]
  simp [Int.tdiv_neg]
theorem rem_m1 (u : Int32) : u - u / (-1) * (-1) = 0 := by
  rw [div_m1, fa_eq, Int32.toInt_sub, Int32.toInt_mul, Int32.toInt_sub]
  simp
theorem up_row (I : II) (c j : Nat) (s : Nat → Int32) (v : Int32) : m_up (m_row I c s) c j v = m_row I c (upd s j v) := by
  funext c' j'
  unfold m_up m_row upd
  by_cases h : c' = c
  · subst h; simp
  · simp [h]
theorem row_self (I : II) (c : Nat) : m_row I c (I c) = I := by
  funext c' j'
  unfold m_row
  by_cases h : c' = c
  · subst h; simp
  · simp [h]
theorem row_row (I : II) (c : Nat) (s s' : Nat → Int32) : m_row (m_row I c s) c s' = m_row I c s' := by
  funext c' j'
  unfold m_row
  by_cases h : c' = c
  · subst h; simp
  · simp [h]
section LAW
variable {E : MEnv} {I : II} {T : TT} {Q : QQ} {F S : Nat}
theorem p_joined {a : Nat} (h2 : 2 ≤ a) (h8 : a ≤ 8) (u v : Int32) (hq : Q (.inl (some (.int (jn a u v)))) I T) : ev E 131 0 [some (.int ((-7) - nI a)), some (.int u), some (.int v)] [] I T Q := by
  refine s_Law_joined_0 ?_
  unfold t_Law_joined_0
  match a, h2, h8, hq with
  | 2, _, _, hq => exact ev_fg [false, true, true] rfl (s_Law_joined_2 hq)
  | 3, _, _, hq => exact ev_fg [false, true, true] rfl (s_Law_joined_6 hq)
  | 4, _, _, hq => exact ev_fg [false, true, true] rfl (s_Law_joined_10 hq)
  | 5, _, _, hq =>
    refine ev_fg [false, true, true] rfl (s_Law_joined_14 ?_)
    unfold t_Law_joined_14 t_Law_joined_21
    have hq : Q (.inl (some (.int (if v = 0 then 0 else u / v)))) I T := hq
    refine ⟨fun q => ?_, fun q => ⟨q, ?_⟩⟩
    · rw [if_pos q] at hq; exact hq
    · rw [if_neg q] at hq; exact hq
  | 6, _, _, hq =>
    refine ev_fg [false, true, true] rfl (s_Law_joined_22 ?_)
    unfold t_Law_joined_22 t_Law_joined_29
    have hq : Q (.inl (some (.int (if v = 0 then 0 else u - u / v * v)))) I T := hq
    refine ⟨fun q => ?_, fun q => ⟨q, ?_⟩⟩
    · rw [if_pos q] at hq; exact hq
    · rw [if_neg q] at hq; exact hq
  | 7, _, _, hq =>
    refine ev_fg [false, true, true] rfl (s_Law_joined_30 ?_)
    unfold t_Law_joined_30 t_Law_joined_36
    have hq : Q (.inl (some (.int (if v ≤ u then v else u)))) I T := hq
    refine ⟨fun q => ?_, fun q => ?_⟩
    · rw [if_pos q] at hq; exact hq
    · rw [if_neg q] at hq; exact hq
  | 8, _, _, hq =>
    refine ev_fg [false, true, true] rfl (s_Law_joined_37 ?_)
    unfold t_Law_joined_37 t_Law_joined_43
    have hq : Q (.inl (some (.int (if u ≤ v then v else u)))) I T := hq
    refine ⟨fun q => ?_, fun q => ?_⟩
    · rw [if_pos q] at hq; exact hq
    · rw [if_neg q] at hq; exact hq
theorem p_less (u v : Int32) (hq : Q (.inl (some (.int (if v ≤ u then v else u)))) I T) : ev E 162 0 [some (.int u), some (.int v)] [] I T Q := by
  refine s_M_less_0 ?_
  unfold t_M_less_0 t_M_less_6
  refine ⟨fun q => ?_, fun q => ?_⟩
  · rw [if_pos q] at hq; exact hq
  · rw [if_neg q] at hq; exact hq
theorem p_more (u v : Int32) (hq : Q (.inl (some (.int (if u ≤ v then v else u)))) I T) : ev E 163 0 [some (.int u), some (.int v)] [] I T Q := by
  refine s_M_more_0 ?_
  unfold t_M_more_0 t_M_more_6
  refine ⟨fun q => ?_, fun q => ?_⟩
  · rw [if_pos q] at hq; exact hq
  · rw [if_neg q] at hq; exact hq
theorem p_by {a : Nat} (h2 : 2 ≤ a) (h8 : a ≤ 8) (u v : Int32) (hq : Q (.inl (some (.int (jn a u v)))) I T) : ev E 161 0 [some (.int (nI a)), some (.int u), some (.int v)] [] I T Q := by
  refine s_M_by_0 ?_
  unfold t_M_by_0
  match a, h2, h8, hq with
  | 2, _, _, hq => exact ev_fg [false, true, true] rfl (s_M_by_2 hq)
  | 3, _, _, hq => exact ev_fg [false, true, true] rfl (s_M_by_6 hq)
  | 4, _, _, hq => exact ev_fg [false, true, true] rfl (s_M_by_10 hq)
  | 5, _, _, hq =>
    refine ev_fg [false, true, true] rfl (s_M_by_14 ?_)
    unfold t_M_by_14 t_M_by_27
    have hq : Q (.inl (some (.int (if v = 0 then 0 else u / v)))) I T := hq
    refine ⟨fun q => ?_, fun q => ⟨fun q2 => ?_, fun _ => ⟨q, ?_⟩⟩⟩
    · rw [if_pos q] at hq; exact hq
    · rw [if_neg q, q2, div_m1] at hq; exact hq
    · rw [if_neg q] at hq; exact hq
  | 6, _, _, hq =>
    refine ev_fg [false, true, true] rfl (s_M_by_28 ?_)
    unfold t_M_by_28 t_M_by_33 t_M_by_38
    have hq : Q (.inl (some (.int (if v = 0 then 0 else u - u / v * v)))) I T := hq
    refine ⟨fun q => ?_, fun q => ⟨fun q2 => ?_, fun _ => ⟨q, ?_⟩⟩⟩
    · rw [if_pos q] at hq; exact hq
    · rw [if_neg q, q2, rem_m1] at hq; exact hq
    · rw [if_neg q] at hq; exact hq
  | 7, _, _, hq =>
    refine ev_fg [false, true, true] rfl (s_M_by_39 ?_)
    unfold t_M_by_39
    exact p_less u v hq
  | 8, _, _, hq =>
    refine ev_fg [false, true, true] rfl (s_M_by_43 ?_)
    unfold t_M_by_43
    exact p_more u v hq
theorem p_variable {w : Nat} (h : w < 8) (hq : Q (.inl (some (.int (I 18 w)))) I T) : ev E 132 0 [some (.ref 15), some (.int (nI w))] [] I T Q := by
  refine s_Law_variable_0 ?_
  unfold t_Law_variable_0 t_Law_variable_12 t_Law_variable_13
  refine ⟨fun q => absurd q (nI_pos (by omega)), fun _ => ⟨fun q => absurd q (nI_ge (a := w) (b := 8) (by omega) (by omega)), fun _ => ⟨gix h (by omega), ?_⟩⟩⟩
  rw [nI_clamp (by omega)]
  exact hq
theorem neg_sub (v : Nat) : (-1 : Int32) - ((-1) - nI v) = nI v := by
  rw [fa_eq, Int32.toInt_sub, Int32.toInt_sub]
  have h := fb_rng (nI v)
  have e : (-1 : Int32).toInt = -1 := rfl
  rw [e]
  simp only [Int.bmod_sub_bmod, Int.sub_bmod_bmod]
  rw [show (-1 : Int) - (-1 - (nI v).toInt) = (nI v).toInt by omega]
  exact fb_bmod h.1 h.2
theorem op_le : ∀ a : Fin 9, 2 ≤ a.val → ¬ (-9 : Int32) < (-7) - nI a.val := by decide +kernel
theorem num_lt {v : Nat} (h : v < 1000) : (-9 : Int32) < nI v ∧ ¬ nI v < 0 := by
  refine ⟨?_, nI_pos (by omega)⟩
  rw [fa_lt, nI_toInt (by omega)]
  have e : (-9 : Int32).toInt = -9 := rfl
  omega
theorem var_lt : ∀ v : Fin 8, (-9 : Int32) < (-1) - nI v.val ∧ (-1) - nI v.val < 0 := by decide +kernel
set_option maxHeartbeats 1000000 in
theorem l_answer {cd : Nat → Nat × Int32} {n : Nat} {dep : Nat → Nat} (hw : lawW cd n dep) (hc : lawC I n cd) : ∀ (d k : Nat) (s : Nat → Int32), k + d = n → Q (.inl (some (.int (clampC ((lawS (I 18) cd d k (s, dep k)).1 0))))) (m_row I 19 (lawS (I 18) cd d k (s, dep k)).1) T → t_Law_answer_4 E (m_row I 19 s) T Q (nI (dep k)) (nI k)
  | 0, k, s, hk, hq => by
    have hn := hw.2.2.1
    unfold t_Law_answer_4
    refine ⟨fun _ => hq, fun q => absurd (nI_le (a := n) (b := k) (by omega) (by omega)) ?_⟩
    rw [← hc.1]
    exact q
  | d + 1, k, s, hk, hq => by
    have hn := hw.2.2.1
    have hI : (m_row I 19 s) 16 k = ccode (cd k) := hc.2 k (by omega)
    unfold t_Law_answer_4
    refine ⟨fun q => absurd q ?_, fun _ => ⟨fun q => absurd q (nI_ge (a := k) (b := 150) (by omega) (by omega)), fun _ => ⟨gix (by omega) (by omega), ?_⟩⟩⟩
    · have : (m_row I 19 s) 15 4 = nI n := hc.1
      rw [this]
      exact nI_ge (by omega) (by omega)
    · rw [nI_clamp (by omega), hI]
      unfold lawS at hq
      rw [rep] at hq
      rcases hw.2.2.2 k (by omega) with ⟨h1, h2, h3, v, hv, hv2, hv3⟩ | ⟨h1, h2, h3, h4, h5⟩
      · have gd : dep k < 24 := h3
        by_cases h0 : (cd k).1 = 0
        · have ec : ccode (cd k) = nI v := by unfold ccode; rw [if_pos h0, hv2]
          have es : lstep (I 18) (cd k) (s, dep k) = (upd s (dep k) (nI v), dep (k + 1)) := by unfold lstep; rw [if_pos h0, hv2, h2]
          rw [ec]
          rw [es] at hq
          refine ⟨fun _ => ⟨fun q => absurd q (nI_ge (a := dep k) (b := 24) (by omega) (by omega)), fun _ => ⟨fun q => absurd q (num_lt hv).2, fun _ => ?_⟩⟩, fun q => absurd (num_lt hv).1 q⟩
          unfold t_Law_answer_66 t_Law_answer_68
          refine ⟨gix gd (by omega), ?_⟩
          rw [nI_clamp (by omega), up_row, nI_1, nI_1, ← h2]
          exact s_Law_answer_4 (l_answer hw hc d (k + 1) _ (by omega) hq)
        · have h01 : (cd k).1 = 1 := by omega
          have hv8 := hv3 h01
          have ec : ccode (cd k) = (-1) - nI v := by unfold ccode; rw [if_neg h0, if_pos h01, hv2]
          have es : lstep (I 18) (cd k) (s, dep k) = (upd s (dep k) (I 18 v), dep (k + 1)) := by unfold lstep; rw [if_neg h0, if_pos h01, hv2, nI_clamp (by omega), h2]
          rw [ec]
          rw [es] at hq
          refine ⟨fun _ => ⟨fun q => absurd q (nI_ge (a := dep k) (b := 24) (by omega) (by omega)), fun _ => ⟨fun _ => ?_, fun q => absurd (var_lt ⟨v, hv8⟩).2 q⟩⟩, fun q => absurd (var_lt ⟨v, hv8⟩).1 q⟩
          rw [neg_sub]
          refine p_variable hv8 ?_
          show t_Law_answer_66 E (m_row I 19 s) T Q (nI (dep k)) (nI k) (nI (dep k)) (I 18 v)
          unfold t_Law_answer_66 t_Law_answer_68
          refine ⟨gix gd (by omega), ?_⟩
          rw [nI_clamp (by omega), up_row, nI_1, nI_1, ← h2]
          exact s_Law_answer_4 (l_answer hw hc d (k + 1) _ (by omega) hq)
      · obtain ⟨e, he⟩ : ∃ e, dep k = e + 2 := ⟨dep k - 2, by omega⟩
        have he2 : dep (k + 1) = e + 1 := by omega
        have ec : ccode (cd k) = (-7) - nI (cd k).1 := by unfold ccode; rw [if_neg (by omega), if_neg (by omega)]
        have es : lstep (I 18) (cd k) (s, dep k) = (upd s e (jn (cd k).1 (s e) (s (e + 1))), dep (k + 1)) := by
          unfold lstep
          rw [if_neg (by omega), if_neg (by omega)]
          simp only [he, he2]
          rfl
        rw [ec]
        rw [es] at hq
        have hop := op_le ⟨(cd k).1, by omega⟩ h1
        have x1 : nI (dep k) + (-1) = nI (e + 1) := by rw [he]; exact pk_m1 (e + 1)
        have x2 : nI (e + 1) - 1 = nI e := nI_pred e
        refine ⟨fun q => absurd q hop, fun _ => ⟨fun q => absurd q (nI_nlt (a := dep k) (b := 2) (by omega) (by omega)), fun _ => ⟨fun q => absurd q (nI_nlt (a := 24) (b := dep k) (by omega) (by omega)), fun _ => ?_⟩⟩⟩
        rw [x1, x2]
        refine ⟨gix (by omega) (by omega), gix (by omega) (by omega), ?_⟩
        rw [nI_clamp (by omega), nI_clamp (by omega)]
        have hs : ∀ j, (m_row I 19 s) 19 j = s j := fun j => rfl
        rw [hs, hs]
        refine p_joined h1 h2 _ _ ?_
        refine ⟨⟨nI_pos (n := e) (by omega), (by omega : e < 24)⟩, ?_⟩
        unfold t_Law_answer_68
        rw [up_row, nI_1]
        have h9 := l_answer hw hc d (k + 1) (upd s e (jn (cd k).1 (s e) (s (e + 1)))) (by omega) hq
        rw [he2] at h9
        exact s_Law_answer_4 h9
theorem p_answer {cd : Nat → Nat × Int32} {n : Nat} {dep : Nat → Nat} (hw : lawW cd n dep) (hc : lawC I n cd) (hq : Q (.inl (some (.int (clampC ((lawS (I 18) cd n 0 (I 19, 0)).1 0))))) (m_row I 19 (lawS (I 18) cd n 0 (I 19, 0)).1) T) : ev E 130 0 [some (.ref 15), none, none, none] [] I T Q := by
  refine s_Law_answer_0 ?_
  unfold t_Law_answer_0
  have h := l_answer (E := E) (Q := Q) (T := T) hw hc n 0 (I 19) (by omega) (by rw [hw.1]; exact hq)
  rw [hw.1, row_self] at h
  exact h
end LAW
