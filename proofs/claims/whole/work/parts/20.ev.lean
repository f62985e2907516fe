/-! ===== runs with a continuation: what stands behind the constructors ===== -/
abbrev II : Type := Nat → Nat → Int32
/-- longs, cells, slots -/
abbrev TT : Type := (Nat → Nat → Int64) × Nat × Nat
abbrev QQ : Type := MOut → II → TT → Prop
def RF (c j : Nat) : Option Nat := (if c < 44 then (if c < 23 then (if c < 9 then (if c < 1 then (if c = 0 then ([some 1, some 3, some 9, some 15, some 20, some 23, some 28, some 30, some 32, some 36, some 42, some 44].getD j none) else none) else (if c < 3 then (if c = 1 then ([some 2].getD j none) else none) else (if c = 3 then ([some 4, some 5, some 6, some 7, some 8].getD j none) else none))) else (if c < 15 then (if c = 9 then ([some 10, some 11, some 12, some 13, some 14].getD j none) else none) else (if c < 20 then (if c = 15 then ([some 16, some 17, some 18, some 19].getD j none) else none) else (if c = 20 then ([some 21, some 22].getD j none) else none)))) else (if c < 32 then (if c < 28 then (if c = 23 then ([some 24, some 25, some 26, some 27].getD j none) else none) else (if c < 30 then (if c = 28 then ([some 3, some 15, some 29].getD j none) else none) else (if c = 30 then ([some 3, some 15, some 31].getD j none) else none))) else (if c < 36 then (if c = 32 then ([some 33, some 34, some 35].getD j none) else none) else (if c < 42 then (if c = 36 then ([some 37, some 38, some 39, some 40, some 41].getD j none) else none) else (if c = 42 then ([some 43].getD j none) else none))))) else (if c < 85 then (if c < 60 then (if c < 46 then (if c = 44 then ([some 45].getD j none) else none) else (if c < 51 then (if c = 46 then ([none, none, none, none, none, none, none, none, none, some 47, some 48, some 49, some 50, some 51, some 60, some 69, some 76, some 83, some 84, none, none, some 85, some 246, some 407, some 416, some 425, some 426, some 427, none, some 508, some 509, some 510, some 527, none, none, none, none, none, none, none, some 531, some 532, none, none, some 533, some 534, some 535].getD j none) else none) else (if c = 51 then (if j < 8 then some (52 + j) else none) else none))) else (if c < 69 then (if c = 60 then (if j < 8 then some (61 + j) else none) else none) else (if c < 76 then (if c = 69 then (if j < 6 then some (70 + j) else none) else none) else (if c = 76 then (if j < 6 then some (77 + j) else none) else none)))) else (if c < 416 then (if c < 246 then (if c = 85 then (if j < 160 then some (86 + j) else none) else none) else (if c < 407 then (if c = 246 then (if j < 160 then some (247 + j) else none) else none) else (if c = 407 then (if j < 8 then some (408 + j) else none) else none))) else (if c < 510 then (if c < 427 then (if c = 416 then (if j < 8 then some (417 + j) else none) else none) else (if c = 427 then (if j < 80 then some (428 + j) else none) else none)) else (if c < 527 then (if c = 510 then (if j < 16 then some (511 + j) else none) else none) else (if c = 527 then (if j < 3 then some (528 + j) else none) else none))))))
def hp (I : II) (T : TT) : MH := (T.2.1, T.2.2, RF, I, T.1)
def ev (E : MEnv) (k ip : Nat) (loc : MLoc) (st : List Value) (I : II) (T : TT) (Q : QQ) : Prop := ∃ (n : Nat) (o : MOut) (I' : II) (T' : TT), m_run n E k ip loc st (hp I T) = some (o, hp I' T') ∧ Q o I' T'

def m_step (rn : MEnv → Nat → Nat → MLoc → List Value → MH → Option (MOut × MH)) (E : MEnv) (k ip : Nat) (loc : MLoc) (st : List Value) (h : MH) : Option (MOut × MH) :=
  match m_code k ip with
    | none => none
    | some (tag, _, ins, info) => match tag with
      | 0 => match m_pure ins loc st with
        | none => none
        | some q => rn E k (ip + 1) q.1 q.2 h
      | 1 => match m_heap E ins info st h with
        | none => none
        | some q => rn E k (ip + 1) loc q.1 q.2
      | 2 => match m_jump ins info ip st with
        | none => none
        | some q => rn E k q.1 loc q.2 h
      | 3 => match m_ret k ins st with
        | none => none
        | some v => some (.inl v, h)
      | 4 => match m_call E info st with
        | none => none
        | some q => match rn q.2.2.2 q.1 0 (m_eloc (m_maxl q.1) q.2.1) [] h with
          | none => none
          | some (.inl v, h1) => rn E k (ip + 1) loc (v.toList ++ q.2.2.1) h1
          | some (.inr x, h1) => if k = 0 ∨ info.getD 3 0 ≠ 1 then none else match m_hfind (m_hs k) ip x with
            | none => some (.inr x, h1)
            | some hp => rn E k (hp + 1) (loc.map fun _ => none) [] h1
      | 5 => match info with
        | x :: _ => if 537 ≤ h.1 ∧ h.1 < 1000000 ∧ m_wds st ≤ 40 then some (.inr x, (h.1 + 1, h.2.1 + 6, h.2.2)) else none
        | _ => none
      | 6 => match m_copy st h with
        | none => none
        | some q => if m_wds q.1 ≤ 40 then rn E k (ip + 1) loc q.1 q.2 else none
      | 7 => match st with
        | .ref _ :: r => if m_wds r ≤ 40 then rn E k (ip + 1) loc r h else none
        | _ => none
      | 8 => match m_math info st with
        | none => none
        | some st' => if m_wds st' ≤ 40 then rn E k (ip + 1) loc st' h else none
      | _ => none
theorem m_run_S (n : Nat) (E : MEnv) (k ip : Nat) (loc : MLoc) (st : List Value) (h : MH) : m_run (n + 1) E k ip loc st h = m_step (m_run n) E k ip loc st h := rfl
set_option maxHeartbeats 1000000 in
theorem m_step_mono {rn rn' : MEnv → Nat → Nat → MLoc → List Value → MH → Option (MOut × MH)} (hm : ∀ E k ip loc st h r, rn E k ip loc st h = some r → rn' E k ip loc st h = some r) {E : MEnv} {k ip : Nat} {loc : MLoc} {st : List Value} {h : MH} {r : MOut × MH} (hr : m_step rn E k ip loc st h = some r) : m_step rn' E k ip loc st h = some r := by
  unfold m_step at hr ⊢
  cases hcode : m_code k ip with
  | none => rw [hcode] at hr; cases hr
  | some e9 =>
    obtain ⟨tag, pc, ins, info⟩ := e9
    rw [hcode] at hr
    try simp only at hr ⊢
    split at hr
    · split at hr
      · cases hr
      · rename_i q hq
        try rw [hq]
        exact hm _ _ _ _ _ _ _ hr
    · split at hr
      · cases hr
      · rename_i q hq
        try rw [hq]
        exact hm _ _ _ _ _ _ _ hr
    · split at hr
      · cases hr
      · rename_i q hq
        try rw [hq]
        exact hm _ _ _ _ _ _ _ hr
    · exact hr
    · split at hr
      · cases hr
      · rename_i q hq
        try rw [hq]
        try simp only at hr ⊢
        split at hr
        · cases hr
        · rename_i v h1 hc
          rw [hm _ _ _ _ _ _ _ hc]
          exact hm _ _ _ _ _ _ _ hr
        · rename_i x h1 hc
          rw [hm _ _ _ _ _ _ _ hc]
          try simp only at hr ⊢
          split at hr
          · cases hr
          · rename_i hn
            try rw [if_neg hn]
            split at hr
            · rename_i hf
              try rw [hf]
              exact hr
            · rename_i hp hf
              try rw [hf]
              exact hm _ _ _ _ _ _ _ hr
    · exact hr
    · split at hr
      · cases hr
      · rename_i q hq
        try rw [hq]
        try simp only at hr ⊢
        split at hr
        · rename_i hw
          try rw [if_pos hw]
          exact hm _ _ _ _ _ _ _ hr
        · cases hr
    · split at hr
      · split at hr
        · rename_i hw
          try rw [if_pos hw]
          exact hm _ _ _ _ _ _ _ hr
        · cases hr
      · cases hr
    · split at hr
      · cases hr
      · rename_i q hq
        try rw [hq]
        try simp only at hr ⊢
        split at hr
        · rename_i hw
          try rw [if_pos hw]
          exact hm _ _ _ _ _ _ _ hr
        · cases hr
    · cases hr
theorem m_run_up : ∀ (n : Nat) (E : MEnv) (k ip : Nat) (loc : MLoc) (st : List Value) (h : MH) (r : MOut × MH), m_run n E k ip loc st h = some r → m_run (n + 1) E k ip loc st h = some r
  | 0, _, _, _, _, _, _, _, hr => by cases hr
  | n + 1, _, _, _, _, _, _, _, hr => by
    rw [m_run_S] at hr ⊢
    exact m_step_mono (m_run_up n) hr
theorem m_run_le {n n' : Nat} (hn : n ≤ n') {E : MEnv} {k ip : Nat} {loc : MLoc} {st : List Value} {h : MH} {r : MOut × MH} (hr : m_run n E k ip loc st h = some r) : m_run n' E k ip loc st h = some r := by
  induction hn with
  | refl => exact hr
  | step _ ih => exact m_run_up _ _ _ _ _ _ _ _ ih
/-- steps in a row that ask nothing -/
def m_seq (E : MEnv) : Nat → Nat → Nat → MLoc → List Value → MH → Option (Nat × MLoc × List Value × MH)
  | 0, _, ip, loc, st, h => some (ip, loc, st, h)
  | n + 1, k, ip, loc, st, h => match m_code k ip with
    | none => none
    | some (tag, _, ins, info) => match tag with
      | 0 => match m_pure ins loc st with
        | none => none
        | some q => m_seq E n k (ip + 1) q.1 q.2 h
      | 1 => match m_heap E ins info st h with
        | none => none
        | some q => m_seq E n k (ip + 1) loc q.1 q.2
      | 2 => match m_jump ins info ip st with
        | none => none
        | some q => m_seq E n k q.1 loc q.2 h
      | 6 => match m_copy st h with
        | none => none
        | some q => if m_wds q.1 ≤ 40 then m_seq E n k (ip + 1) loc q.1 q.2 else none
      | 8 => match m_math info st with
        | none => none
        | some st' => if m_wds st' ≤ 40 then m_seq E n k (ip + 1) loc st' h else none
      | _ => none
section EVA
variable {E : MEnv} {k ip : Nat} {loc : MLoc} {st : List Value} {I : II} {T : TT} {Q : QQ}
theorem ev_mono {Q' : QQ} (h : ev E k ip loc st I T Q) (hq : ∀ o I' T', Q o I' T' → Q' o I' T') : ev E k ip loc st I T Q' := by
  obtain ⟨n, o, I', T', h1, h2⟩ := h
  exact ⟨n, o, I', T', h1, hq _ _ _ h2⟩
theorem m_seq_run : ∀ (n : Nat) {k ip : Nat} {loc : MLoc} {st : List Value} {h : MH} {ip' : Nat} {loc' : MLoc} {st' : List Value} {h' : MH}, m_seq E n k ip loc st h = some (ip', loc', st', h') → ∀ {m : Nat} {r : MOut × MH}, m_run m E k ip' loc' st' h' = some r → m_run (n + m) E k ip loc st h = some r
  | 0, k, ip, loc, st, h, ip', loc', st', h', hs, m, r, hr => by
    cases hs
    rw [Nat.zero_add]
    exact hr
  | n + 1, k, ip, loc, st, h, ip', loc', st', h', hs, m, r, hr => by
    have ih := @m_seq_run n
    rw [show n + 1 + m = n + m + 1 by omega, m_run_S]
    unfold m_seq at hs
    unfold m_step
    cases hcode : m_code k ip with
    | none => rw [hcode] at hs; cases hs
    | some e9 =>
      obtain ⟨tag, pc, ins, info⟩ := e9
      rw [hcode] at hs
      try simp only at hs ⊢
      split at hs
      · split at hs
        · cases hs
        · rename_i q hq
          try rw [hq]
          exact ih hs hr
      · split at hs
        · cases hs
        · rename_i q hq
          try rw [hq]
          exact ih hs hr
      · split at hs
        · cases hs
        · rename_i q hq
          try rw [hq]
          exact ih hs hr
      · split at hs
        · cases hs
        · rename_i q hq
          try rw [hq]
          try simp only at hs ⊢
          split at hs
          · rename_i hw
            try rw [if_pos hw]
            exact ih hs hr
          · cases hs
      · split at hs
        · cases hs
        · rename_i q hq
          try rw [hq]
          try simp only at hs ⊢
          split at hs
          · rename_i hw
            try rw [if_pos hw]
            exact ih hs hr
          · cases hs
      · cases hs
theorem ev_seq (n : Nat) {ip' : Nat} {loc' : MLoc} {st' : List Value} {I1 : II} {T1 : TT} (hs : m_seq E n k ip loc st (hp I T) = some (ip', loc', st', hp I1 T1)) (hn : ev E k ip' loc' st' I1 T1 Q) : ev E k ip loc st I T Q := by
  obtain ⟨m, o, I', T', h1, h2⟩ := hn
  exact ⟨n + m, o, I', T', m_seq_run n hs h1, h2⟩
/-- a jump: where to, by cases -/
theorem ev_br {pc : Nat} {ins : Instr} {info : List Nat} {p : Prop} {a b : Nat} {st' : List Value} (i9 : Decidable p) (hc : m_code k ip = some (2, pc, ins, info)) (hj : m_jump ins info ip st = some (if p then a else b, st')) (h1 : p → ev E k a loc st' I T Q) (h2 : ¬ p → ev E k b loc st' I T Q) : ev E k ip loc st I T Q := by
  by_cases hp : p
  · rw [if_pos hp] at hj
    obtain ⟨n, o, I', T', e1, e2⟩ := h1 hp
    refine ⟨n + 1, o, I', T', ?_, e2⟩
    rw [m_run_S]
    unfold m_step
    rw [hc]
    simp only [hj]
    exact e1
  · rw [if_neg hp] at hj
    obtain ⟨n, o, I', T', e1, e2⟩ := h2 hp
    refine ⟨n + 1, o, I', T', ?_, e2⟩
    rw [m_run_S]
    unfold m_step
    rw [hc]
    simp only [hj]
    exact e1
/-- a heap step whose answer is given -/
theorem ev_hp {pc : Nat} {ins : Instr} {info : List Nat} {st' : List Value} {I1 : II} {T1 : TT} (hc : m_code k ip = some (1, pc, ins, info)) (hh : m_heap E ins info st (hp I T) = some (st', hp I1 T1)) (h1 : ev E k (ip + 1) loc st' I1 T1 Q) : ev E k ip loc st I T Q := by
  obtain ⟨n, o, I', T', e1, e2⟩ := h1
  refine ⟨n + 1, o, I', T', ?_, e2⟩
  rw [m_run_S]
  unfold m_step
  rw [hc]
  simp only [hh]
  exact e1
theorem ev_pr {pc : Nat} {ins : Instr} {info : List Nat} {loc' : MLoc} {st' : List Value} (hc : m_code k ip = some (0, pc, ins, info)) (hh : m_pure ins loc st = some (loc', st')) (h1 : ev E k (ip + 1) loc' st' I T Q) : ev E k ip loc st I T Q := by
  obtain ⟨n, o, I', T', e1, e2⟩ := h1
  refine ⟨n + 1, o, I', T', ?_, e2⟩
  rw [m_run_S]
  unfold m_step
  rw [hc]
  simp only [hh]
  exact e1
theorem ev_cp {pc : Nat} {ins : Instr} {info : List Nat} {st' : List Value} {I1 : II} {T1 : TT} (hc : m_code k ip = some (6, pc, ins, info)) (hh : m_copy st (hp I T) = some (st', hp I1 T1)) (hw : m_wds st' ≤ 40) (h1 : ev E k (ip + 1) loc st' I1 T1 Q) : ev E k ip loc st I T Q := by
  obtain ⟨n, o, I', T', e1, e2⟩ := h1
  refine ⟨n + 1, o, I', T', ?_, e2⟩
  rw [m_run_S]
  unfold m_step
  rw [hc]
  simp only [hh, if_pos hw]
  exact e1
/-! guarded reads and writes of arrays -/
theorem ev_iald {pc : Nat} {info : List Nat} {i : Int32} {c n : Nat} {r : List Value} (hc : m_code k ip = some (1, pc, .iaload, info)) (hK : m_K c = (1, n)) (hi : ¬ i < 0 ∧ i.toNatClampNeg < n) (h1 : ev E k (ip + 1) loc (.int (I c i.toNatClampNeg) :: r) I T Q) : ev E k ip loc (.int i :: .ref c :: r) I T Q := by
  refine ev_hp (I1 := I) (T1 := T) hc ?_ h1
  simp only [m_heap, h_iald, hK, if_true]
  rw [if_neg (by rintro (q | q); exact hi.1 q; omega)]
  rfl
theorem ev_bald {pc : Nat} {info : List Nat} {i : Int32} {c n : Nat} {r : List Value} (hc : m_code k ip = some (1, pc, .baload, info)) (hK : m_K c = (2, n)) (hi : ¬ i < 0 ∧ i.toNatClampNeg < n) (h1 : ev E k (ip + 1) loc (.int (I c i.toNatClampNeg) :: r) I T Q) : ev E k ip loc (.int i :: .ref c :: r) I T Q := by
  refine ev_hp (I1 := I) (T1 := T) hc ?_ h1
  simp only [m_heap, h_bald, hK, if_true]
  rw [if_neg (by rintro (q | q); exact hi.1 q; omega)]
  rfl
theorem ev_sald {pc : Nat} {info : List Nat} {i : Int32} {c n : Nat} {r : List Value} (hc : m_code k ip = some (1, pc, .baload, info)) (hK : m_K c = (6, n)) (hi : ¬ i < 0 ∧ i.toNatClampNeg < n) (h1 : ev E k (ip + 1) loc (.int ((m_str (c - 1000100)).getD i.toNatClampNeg 0) :: r) I T Q) : ev E k ip loc (.int i :: .ref c :: r) I T Q := by
  refine ev_hp (I1 := I) (T1 := T) hc ?_ h1
  simp only [m_heap, h_bald, hK, if_true]
  rw [if_neg (by decide), if_neg (by rintro (q | q); exact hi.1 q; omega)]
theorem ev_lald {pc : Nat} {info : List Nat} {i : Int32} {c n : Nat} {r : List Value} (hc : m_code k ip = some (1, pc, .laload, info)) (hK : m_K c = (3, n)) (hi : ¬ i < 0 ∧ i.toNatClampNeg < n) (h1 : ev E k (ip + 1) loc (.long (T.1 c i.toNatClampNeg) :: r) I T Q) : ev E k ip loc (.int i :: .ref c :: r) I T Q := by
  refine ev_hp (I1 := I) (T1 := T) hc ?_ h1
  simp only [m_heap, h_lald, hK, if_true]
  rw [if_neg (by rintro (q | q); exact hi.1 q; omega)]
  rfl
theorem ev_aald {pc : Nat} {info : List Nat} {i : Int32} {c n d : Nat} {r : List Value} (hc : m_code k ip = some (1, pc, .aaload, info)) (hK : m_K c = (4, n)) (hi : ¬ i < 0 ∧ i.toNatClampNeg < n) (hR : RF c i.toNatClampNeg = some d) (h1 : ev E k (ip + 1) loc (.ref d :: r) I T Q) : ev E k ip loc (.int i :: .ref c :: r) I T Q := by
  refine ev_hp (I1 := I) (T1 := T) hc ?_ h1
  simp only [m_heap, h_aald, hK, if_true]
  rw [if_neg (by rintro (q | q); exact hi.1 q; omega)]
  show some (va_rf (RF c i.toNatClampNeg) :: r, hp I T) = _
  rw [hR]
  rfl
theorem ev_iast {pc : Nat} {info : List Nat} {x i : Int32} {c n : Nat} {r : List Value} (hc : m_code k ip = some (1, pc, .iastore, info)) (hK : m_K c = (1, n)) (hi : ¬ i < 0 ∧ i.toNatClampNeg < n) (h1 : ev E k (ip + 1) loc r (m_up I c i.toNatClampNeg x) T Q) : ev E k ip loc (.int x :: .int i :: .ref c :: r) I T Q := by
  refine ev_hp (I1 := m_up I c i.toNatClampNeg x) (T1 := T) hc ?_ h1
  simp only [m_heap, h_iast, hK, if_true]
  rw [if_neg (by rintro (q | q); exact hi.1 q; omega)]
  rfl
theorem ev_bast {pc : Nat} {info : List Nat} {x i : Int32} {c n : Nat} {r : List Value} (hc : m_code k ip = some (1, pc, .bastore, info)) (hK : m_K c = (2, n)) (hi : ¬ i < 0 ∧ i.toNatClampNeg < n) (h1 : ev E k (ip + 1) loc r (m_up I c i.toNatClampNeg x.toInt8.toInt32) T Q) : ev E k ip loc (.int x :: .int i :: .ref c :: r) I T Q := by
  refine ev_hp (I1 := m_up I c i.toNatClampNeg x.toInt8.toInt32) (T1 := T) hc ?_ h1
  simp only [m_heap, h_bast, hK, if_true]
  rw [if_neg (by rintro (q | q); exact hi.1 q; omega)]
  rfl
theorem ev_last {pc : Nat} {info : List Nat} {x : Int64} {i : Int32} {c n : Nat} {r : List Value} (hc : m_code k ip = some (1, pc, .lastore, info)) (hK : m_K c = (3, n)) (hi : ¬ i < 0 ∧ i.toNatClampNeg < n) (h1 : ev E k (ip + 1) loc r I (m_up T.1 c i.toNatClampNeg x, T.2) Q) : ev E k ip loc (.long x :: .int i :: .ref c :: r) I T Q := by
  refine ev_hp (I1 := I) (T1 := (m_up T.1 c i.toNatClampNeg x, T.2)) hc ?_ h1
  simp only [m_heap, h_last, hK, if_true]
  rw [if_neg (by rintro (q | q); exact hi.1 q; omega)]
  rfl
theorem ev_alen {pc : Nat} {info : List Nat} {c n : Nat} {r : List Value} (hc : m_code k ip = some (1, pc, .arraylength, info)) (hK : m_K c = (1, n)) (h1 : ev E k (ip + 1) loc (.int (Int32.ofNat n) :: r) I T Q) : ev E k ip loc (.ref c :: r) I T Q := by
  refine ev_hp (I1 := I) (T1 := T) hc ?_ h1
  simp only [m_heap, h_alen, hK]
  rfl
/-! the script -/
theorem ev_xald {pc : Nat} {info : List Nat} {i : Int32} {r : List Value} (hc : m_code k ip = some (1, pc, .iaload, info)) (hi : ¬ i < 0 ∧ i.toNatClampNeg < E.2.1) (h1 : ev E k (ip + 1) loc (.int (E.2.2 i.toNatClampNeg) :: r) I T Q) : ev E k ip loc (.int i :: .ref 2000000 :: r) I T Q := by
  refine ev_hp (I1 := I) (T1 := T) hc ?_ h1
  simp only [m_heap, h_iald]
  rw [if_neg (by decide), if_pos trivial, if_neg (by rintro (q | q); exact hi.1 q; omega)]
/-! returns, calls, throws -/
theorem ev_ret {pc : Nat} {ins : Instr} {info : List Nat} {v : Option Value} (hc : m_code k ip = some (3, pc, ins, info)) (hr : m_ret k ins st = some v) (hq : Q (.inl v) I T) : ev E k ip loc st I T Q := by
  refine ⟨1, .inl v, I, T, ?_, hq⟩
  rw [m_run_S]
  unfold m_step
  rw [hc]
  simp only [hr]
theorem ev_call {pc : Nat} {ins : Instr} {info : List Nat} {y : Nat} {as rest : List Value} {E' : MEnv} (hc : m_code k ip = some (4, pc, ins, info)) (hm : m_call E info st = some (y, as, rest, E')) {loc' : MLoc} (hl : m_eloc (m_maxl y) as = loc')
    (h1 : ev E' y 0 loc' [] I T (fun o I1 T1 => match o with
      | .inl v => ev E k (ip + 1) loc (v.toList ++ rest) I1 T1 Q
      | .inr x => (¬ (k = 0 ∨ info.getD 3 0 ≠ 1)) ∧ match m_hfind (m_hs k) ip x with
        | none => Q (.inr x) I1 T1
        | some hp => ev E k (hp + 1) (loc.map fun _ => none) [] I1 T1 Q)) : ev E k ip loc st I T Q := by
  obtain ⟨n, o, I1, T1, e1, e2⟩ := h1
  subst hl
  cases o with
  | inl v =>
    obtain ⟨m, o2, I2, T2, f1, f2⟩ := e2
    refine ⟨n + m + 1, o2, I2, T2, ?_, f2⟩
    rw [m_run_S]
    unfold m_step
    rw [hc]
    simp only [hm, m_run_le (Nat.le_add_right n m) e1]
    exact m_run_le (Nat.le_add_left m n) f1
  | inr x =>
    obtain ⟨g1, g2⟩ := e2
    split at g2
    · rename_i hf
      refine ⟨n + 1, _, I1, T1, ?_, g2⟩
      rw [m_run_S]
      unfold m_step
      rw [hc]
      simp only [hm, e1]
      rw [if_neg g1, hf]
    · rename_i hp9 hf
      obtain ⟨m, o2, I2, T2, f1, f2⟩ := g2
      refine ⟨n + m + 1, o2, I2, T2, ?_, f2⟩
      rw [m_run_S]
      unfold m_step
      rw [hc]
      simp only [hm, m_run_le (Nat.le_add_right n m) e1]
      rw [if_neg g1, hf]
      exact m_run_le (Nat.le_add_left m n) f1
theorem ev_thr {pc : Nat} {ins : Instr} {info : List Nat} {x : Nat} (hc : m_code k ip = some (5, pc, ins, x :: info)) (hg : 537 ≤ T.2.1 ∧ T.2.1 < 1000000) (hw : m_wds st ≤ 40) (hq : Q (.inr x) I (T.1, T.2.1 + 1, T.2.2 + 6)) : ev E k ip loc st I T Q := by
  refine ⟨1, .inr x, I, (T.1, T.2.1 + 1, T.2.2 + 6), ?_, hq⟩
  rw [m_run_S]
  unfold m_step
  rw [hc]
  exact if_pos ⟨hg.1, hg.2, hw⟩
end EVA
/-! forgetting locals -/
def mLE : MLoc → MLoc → Prop
  | [], [] => True
  | a :: l, b :: l' => (a = none ∨ a = b) ∧ mLE l l'
  | _, _ => False
def m_fg : List Bool → MLoc → MLoc
  | true :: m, v :: l => v :: m_fg m l
  | false :: m, _ :: l => none :: m_fg m l
  | _, l => l
theorem mLE_refl : ∀ l : MLoc, mLE l l
  | [] => trivial
  | _ :: l => ⟨Or.inr rfl, mLE_refl l⟩
theorem mLE_fg : ∀ (m : List Bool) (l : MLoc), mLE (m_fg m l) l
  | true :: m, v :: l => ⟨Or.inr rfl, mLE_fg m l⟩
  | false :: m, v :: l => ⟨Or.inl rfl, mLE_fg m l⟩
  | [], l => mLE_refl l
  | true :: _, [] => trivial
  | false :: _, [] => trivial
theorem mLE_len : ∀ {l l' : MLoc}, mLE l l' → l.length = l'.length
  | [], [], _ => rfl
  | a :: l, b :: l', h => by simp [mLE_len h.2]
theorem mLE_get : ∀ {l l' : MLoc} {i : Nat} {v : Value}, mLE l l' → l[i]? = some (some v) → l'[i]? = some (some v)
  | [], [], i, v, _, h => h
  | a :: l, b :: l', 0, v, h, hv => by
    simp at hv
    subst hv
    rcases h.1 with q | q
    · cases q
    · simp [← q]
  | a :: l, b :: l', i + 1, v, h, hv => by
    have := mLE_get (i := i) (v := v) h.2 (by simpa using hv)
    simpa using this
theorem mLE_st1 : ∀ {l l' : MLoc} (i : Nat) (v : Value), mLE l l' → mLE (m_st1 l i v) (m_st1 l' i v)
  | [], [], i, v, _ => by simp [m_st1, mLE]
  | a :: l, b :: l', 0, v, h => by
    simp only [m_st1]
    exact ⟨Or.inr rfl, h.2⟩
  | [a], [b], 1, v, h => by simp [m_st1, mLE]
  | a :: c :: l, b :: d :: l', 1, v, h => by
    simp only [m_st1]
    refine ⟨?_, Or.inr rfl, h.2.2⟩
    rcases h.1 with q | q
    · subst q; exact Or.inl rfl
    · subst q; exact Or.inr rfl
  | a :: l, b :: l', i + 2, v, h => by
    simp only [m_st1]
    exact ⟨h.1, mLE_st1 (i + 1) v h.2⟩
  | [_], _ :: _ :: _, 1, _, h => h.2.elim
  | _ :: _ :: _, [_], 1, _, h => h.2.elim
theorem mLE_st2 : ∀ {l l' : MLoc} (i : Nat) (v : Value), mLE l l' → mLE (m_st2 l i v) (m_st2 l' i v)
  | [], [], i, v, _ => by simp [m_st2, mLE]
  | [a], [b], i, v, h => by simp [m_st2, mLE]
  | a :: c :: l, b :: d :: l', 0, v, h => by
    simp only [m_st2]
    exact ⟨Or.inr rfl, Or.inr rfl, h.2.2⟩
  | [a, c], [b, d], 1, v, h => by simp [m_st2, mLE]
  | a :: c :: e :: l, b :: d :: f :: l', 1, v, h => by
    simp only [m_st2]
    refine ⟨?_, Or.inr rfl, Or.inr rfl, h.2.2.2⟩
    rcases h.1 with q | q
    · subst q; exact Or.inl rfl
    · subst q; exact Or.inr rfl
  | a :: c :: l, b :: d :: l', i + 2, v, h => by
    simp only [m_st2]
    exact ⟨h.1, mLE_st2 (i + 1) v h.2⟩
  | [_], _ :: _ :: _, _, _, h => h.2.elim
  | _ :: _ :: _, [_], _, _, h => h.2.elim
  | [_, _], _ :: _ :: _ :: _, 1, _, h => h.2.2.elim
  | _ :: _ :: _ :: _, [_, _], 1, _, h => h.2.2.elim
set_option maxHeartbeats 2000000 in
theorem m_pure_fg {ins : Instr} {l l' l1 : MLoc} {st s1 : List Value} (h : mLE l l') (hp : m_pure ins l st = some (l1, s1)) : ∃ l1', m_pure ins l' st = some (l1', s1) ∧ mLE l1 l1' := by
  have hlen := mLE_len h
  cases ins <;> simp only [m_pure, q_i2, q_i2d, q_i1, q_l2, q_l2d, q_lcmp, q_lshl, q_i2l, q_ild, q_lld, q_ald, q_ist, q_ast, q_lst, q_inc, q_dup, q_dup2, q_pop] at hp ⊢ <;>
    first
    | (cases hp; done)
    | (cases hp; exact ⟨_, rfl, h⟩)
    | (split at hp
       · first
         | (cases hp; exact ⟨_, rfl, h⟩)
         | (rename_i x hx; cases hp; rw [mLE_get h hx]; exact ⟨_, rfl, h⟩)
         | (rename_i x hx; cases hp; rw [mLE_get h hx]; exact ⟨_, rfl, mLE_st1 _ _ h⟩)
         | (split at hp
            · first
              | (cases hp; done)
              | (rename_i hi; cases hp; rw [if_pos (by rw [← hlen]; exact hi)]; exact ⟨_, rfl, mLE_st1 _ _ h⟩)
              | (rename_i hi; cases hp; rw [if_pos (by rw [← hlen]; exact hi)]; exact ⟨_, rfl, mLE_st2 _ _ h⟩)
              | (rename_i hi; cases hp; rw [if_pos hi]; exact ⟨_, rfl, h⟩)
            · first
              | (cases hp; done)
              | (rename_i hi; cases hp; rw [if_neg hi]; exact ⟨_, rfl, h⟩))
       · cases hp)
theorem mLE_none {l l' : MLoc} (h : mLE l l') : (l.map fun _ => (none : Option Value)) = l'.map fun _ => none := by
  rw [List.map_const', List.map_const', mLE_len h]
set_option maxHeartbeats 1000000 in
theorem m_run_fg : ∀ (n : Nat) {E : MEnv} {k ip : Nat} {l l' : MLoc} {st : List Value} {h : MH} {r : MOut × MH}, mLE l l' → m_run n E k ip l st h = some r → m_run n E k ip l' st h = some r
  | 0, _, _, _, _, _, _, _, _, _, hr => by cases hr
  | n + 1, E, k, ip, l, l', st, h, r, hl, hr => by
    have ih := @m_run_fg n
    rw [m_run_S] at hr ⊢
    unfold m_step at hr ⊢
    cases hcode : m_code k ip with
    | none => rw [hcode] at hr; cases hr
    | some e9 =>
      obtain ⟨tag, pc, ins, info⟩ := e9
      rw [hcode] at hr
      try simp only at hr ⊢
      split at hr
      · split at hr
        · cases hr
        · rename_i q hq
          obtain ⟨q1, q2⟩ := q
          obtain ⟨l1', e1, e2⟩ := m_pure_fg hl hq
          rw [e1]
          exact ih e2 hr
      · split at hr
        · cases hr
        · rename_i q hq
          try rw [hq]
          exact ih hl hr
      · split at hr
        · cases hr
        · rename_i q hq
          try rw [hq]
          exact ih hl hr
      · exact hr
      · split at hr
        · cases hr
        · rename_i q hq
          try rw [hq]
          try simp only at hr ⊢
          split at hr
          · cases hr
          · rename_i v h1 hc
            try rw [hc]
            exact ih hl hr
          · rename_i x h1 hc
            try rw [hc]
            try simp only at hr ⊢
            rw [← mLE_none hl]
            exact hr
      · exact hr
      · split at hr
        · cases hr
        · rename_i q hq
          try rw [hq]
          try simp only at hr ⊢
          split at hr
          · rename_i hw
            try rw [if_pos hw]
            exact ih hl hr
          · cases hr
      · split at hr
        · split at hr
          · rename_i hw
            try rw [if_pos hw]
            exact ih hl hr
          · cases hr
        · cases hr
      · split at hr
        · cases hr
        · rename_i q hq
          try rw [hq]
          try simp only at hr ⊢
          split at hr
          · rename_i hw
            try rw [if_pos hw]
            exact ih hl hr
          · cases hr
      · cases hr
theorem ev_fg {E : MEnv} {k ip : Nat} {loc loc' : MLoc} {st : List Value} {I : II} {T : TT} {Q : QQ} (m : List Bool) (hl : m_fg m loc = loc') (h : ev E k ip loc' st I T Q) : ev E k ip loc st I T Q := by
  obtain ⟨n, o, I', T', e1, e2⟩ := h
  subst hl
  exact ⟨n, o, I', T', m_run_fg n (mLE_fg m loc) e1, e2⟩
/-! calls whose answers go on -/
def KI (f : Int32 → II → TT → Prop) (g : Nat → II → TT → Prop) : QQ := fun o I T => match o with
  | .inl (some (.int v)) => f v I T
  | .inl _ => False
  | .inr x => g x I T
def KL (f : Int64 → II → TT → Prop) (g : Nat → II → TT → Prop) : QQ := fun o I T => match o with
  | .inl (some (.long v)) => f v I T
  | .inl _ => False
  | .inr x => g x I T
def KV (f : II → TT → Prop) (g : Nat → II → TT → Prop) : QQ := fun o I T => match o with
  | .inl none => f I T
  | .inl _ => False
  | .inr x => g x I T
section EVB
variable {E : MEnv} {k ip : Nat} {loc : MLoc} {st : List Value} {I : II} {T : TT} {Q : QQ}
theorem ev_callI {pc : Nat} {ins : Instr} {info : List Nat} {y : Nat} {as rest : List Value} {E' : MEnv} {f : Int32 → II → TT → Prop} {g : Nat → II → TT → Prop} (hc : m_code k ip = some (4, pc, ins, info)) (hm : m_call E info st = some (y, as, rest, E')) {loc' : MLoc} (hl : m_eloc (m_maxl y) as = loc') (h2 : ∀ (v : Int32) I1 T1, f v I1 T1 → ev E k (ip + 1) loc (.int v :: rest) I1 T1 Q)
    (h3 : ∀ x I1 T1, g x I1 T1 → (¬ (k = 0 ∨ info.getD 3 0 ≠ 1)) ∧ match m_hfind (m_hs k) ip x with
        | none => Q (.inr x) I1 T1
        | some hp => ev E k (hp + 1) (loc.map fun _ => none) [] I1 T1 Q)
    (h1 : ev E' y 0 loc' [] I T (KI f g)) : ev E k ip loc st I T Q := by
  refine ev_call hc hm hl (ev_mono h1 (fun o I1 T1 hq => ?_))
  cases o with
  | inl v =>
    match v, hq with
    | some (.int v), hq => exact h2 v I1 T1 hq
  | inr x => exact h3 x I1 T1 hq
theorem ev_callL {pc : Nat} {ins : Instr} {info : List Nat} {y : Nat} {as rest : List Value} {E' : MEnv} {f : Int64 → II → TT → Prop} {g : Nat → II → TT → Prop} (hc : m_code k ip = some (4, pc, ins, info)) (hm : m_call E info st = some (y, as, rest, E')) {loc' : MLoc} (hl : m_eloc (m_maxl y) as = loc') (h2 : ∀ (v : Int64) I1 T1, f v I1 T1 → ev E k (ip + 1) loc (.long v :: rest) I1 T1 Q)
    (h3 : ∀ x I1 T1, g x I1 T1 → (¬ (k = 0 ∨ info.getD 3 0 ≠ 1)) ∧ match m_hfind (m_hs k) ip x with
        | none => Q (.inr x) I1 T1
        | some hp => ev E k (hp + 1) (loc.map fun _ => none) [] I1 T1 Q)
    (h1 : ev E' y 0 loc' [] I T (KL f g)) : ev E k ip loc st I T Q := by
  refine ev_call hc hm hl (ev_mono h1 (fun o I1 T1 hq => ?_))
  cases o with
  | inl v =>
    match v, hq with
    | some (.long v), hq => exact h2 v I1 T1 hq
  | inr x => exact h3 x I1 T1 hq
theorem ev_callV {pc : Nat} {ins : Instr} {info : List Nat} {y : Nat} {as rest : List Value} {E' : MEnv} {f : II → TT → Prop} {g : Nat → II → TT → Prop} (hc : m_code k ip = some (4, pc, ins, info)) (hm : m_call E info st = some (y, as, rest, E')) {loc' : MLoc} (hl : m_eloc (m_maxl y) as = loc') (h2 : ∀  I1 T1, f I1 T1 → ev E k (ip + 1) loc rest I1 T1 Q)
    (h3 : ∀ x I1 T1, g x I1 T1 → (¬ (k = 0 ∨ info.getD 3 0 ≠ 1)) ∧ match m_hfind (m_hs k) ip x with
        | none => Q (.inr x) I1 T1
        | some hp => ev E k (hp + 1) (loc.map fun _ => none) [] I1 T1 Q)
    (h1 : ev E' y 0 loc' [] I T (KV f g)) : ev E k ip loc st I T Q := by
  refine ev_call hc hm hl (ev_mono h1 (fun o I1 T1 hq => ?_))
  cases o with
  | inl v =>
    match v, hq with
    | none, hq => exact h2 I1 T1 hq
  | inr x => exact h3 x I1 T1 hq
theorem ev_retb {pc : Nat} {info : List Nat} {v : Int32} (hc : m_code k ip = some (3, pc, .ireturn, info)) (hr : m_rty k = 3) (hv : v = 0 ∨ v = 1) (hq : Q (.inl (some (.int v))) I T) : ev E k ip loc [.int v] I T Q := by
  refine ev_ret hc ?_ hq
  simp only [m_ret, hr]
  exact if_pos hv
theorem ev_rcc {v : Int32} (hr : m_rty k = 5) (hv : (v.toUInt32 % 65536).toInt32 = v) : m_ret k .ireturn [.int v] = some (some (.int v)) := by
  simp only [m_ret, hr]
  exact if_pos hv
theorem ev_rcb {v : Int32} (hr : m_rty k = 4) (hv : v.toInt8.toInt32 = v) : m_ret k .ireturn [.int v] = some (some (.int v)) := by
  simp only [m_ret, hr]
  exact if_pos hv
theorem ev_idiv {x y : Int32} {r : List Value} (h : y ≠ 0) : m_pure .idiv loc (.int y :: .int x :: r) = some (loc, .int (x / y) :: r) := by
  simp only [m_pure, q_i2d]; exact if_neg h
theorem ev_irem {x y : Int32} {r : List Value} (h : y ≠ 0) : m_pure .irem loc (.int y :: .int x :: r) = some (loc, .int (x - x / y * y) :: r) := by
  simp only [m_pure, q_i2d]; exact if_neg h
theorem ev_ldiv {x y : Int64} {r : List Value} (h : y ≠ 0) : m_pure .ldiv loc (.long y :: .long x :: r) = some (loc, .long (x / y) :: r) := by
  simp only [m_pure, q_l2d]; exact if_neg h
theorem ev_lrem {x y : Int64} {r : List Value} (h : y ≠ 0) : m_pure .lrem loc (.long y :: .long x :: r) = some (loc, .long (x - x / y * y) :: r) := by
  simp only [m_pure, q_l2d]; exact if_neg h
theorem ev_jp {pc : Nat} {ins : Instr} {info : List Nat} {a : Nat} {st' : List Value} (hc : m_code k ip = some (2, pc, ins, info)) (hj : m_jump ins info ip st = some (a, st')) (h1 : ev E k a loc st' I T Q) : ev E k ip loc st I T Q := by
  obtain ⟨n, o, I', T', e1, e2⟩ := h1
  refine ⟨n + 1, o, I', T', ?_, e2⟩
  rw [m_run_S]
  unfold m_step
  rw [hc]
  simp only [hj]
  exact e1
theorem ev_cpy {pc : Nat} {ins : Instr} {info : List Nat} {n dp sp : Int32} {c d lc ld : Nat} {r : List Value} (hc : m_code k ip = some (6, pc, ins, info)) (hK : m_K c = (1, lc)) (hK2 : m_K d = (1, ld)) (hg : ¬ sp < 0 ∧ ¬ dp < 0 ∧ ¬ n < 0 ∧ sp.toNatClampNeg + n.toNatClampNeg ≤ lc ∧ dp.toNatClampNeg + n.toNatClampNeg ≤ ld) (hw : m_wds r ≤ 40) (h1 : ev E k (ip + 1) loc r (m_row I d (va_cpy (I c) (I d) sp.toNatClampNeg dp.toNatClampNeg n.toNatClampNeg)) T Q) : ev E k ip loc (.int n :: .int dp :: .ref d :: .int sp :: .ref c :: r) I T Q := by
  refine ev_cp (I1 := m_row I d (va_cpy (I c) (I d) sp.toNatClampNeg dp.toNatClampNeg n.toNatClampNeg)) (T1 := T) hc ?_ hw h1
  simp only [m_copy, hK, hK2]
  rw [if_pos ⟨trivial, trivial, hg⟩]
  rfl
end EVB
def i_ushr (x y : Int32) : Int32 := (x.toUInt32 >>> (y.toUInt32 &&& Int32.toUInt32 31)).toInt32
theorem RF_51 {i : Nat} (h : i < 8) : RF 51 i = some (52 + i) := by
  show (if i < 8 then some (52 + i) else none) = _
  exact if_pos h
theorem KF_51 {i : Nat} (h : i < 8) : m_K (52 + i) = (1, 2) := of_decide_eq_true (List.all_eq_true.mp (show (List.range 8).all (fun i => decide (m_K (52 + i) = (1, 2))) = true by decide +kernel) i (List.mem_range.mpr h))
theorem RF_60 {i : Nat} (h : i < 8) : RF 60 i = some (61 + i) := by
  show (if i < 8 then some (61 + i) else none) = _
  exact if_pos h
theorem KF_60 {i : Nat} (h : i < 8) : m_K (61 + i) = (1, 2) := of_decide_eq_true (List.all_eq_true.mp (show (List.range 8).all (fun i => decide (m_K (61 + i) = (1, 2))) = true by decide +kernel) i (List.mem_range.mpr h))
theorem RF_69 {i : Nat} (h : i < 6) : RF 69 i = some (70 + i) := by
  show (if i < 6 then some (70 + i) else none) = _
  exact if_pos h
theorem KF_69 {i : Nat} (h : i < 6) : m_K (70 + i) = (1, 2) := of_decide_eq_true (List.all_eq_true.mp (show (List.range 6).all (fun i => decide (m_K (70 + i) = (1, 2))) = true by decide +kernel) i (List.mem_range.mpr h))
theorem RF_76 {i : Nat} (h : i < 6) : RF 76 i = some (77 + i) := by
  show (if i < 6 then some (77 + i) else none) = _
  exact if_pos h
theorem KF_76 {i : Nat} (h : i < 6) : m_K (77 + i) = (1, 2) := of_decide_eq_true (List.all_eq_true.mp (show (List.range 6).all (fun i => decide (m_K (77 + i) = (1, 2))) = true by decide +kernel) i (List.mem_range.mpr h))
theorem RF_85 {i : Nat} (h : i < 160) : RF 85 i = some (86 + i) := by
  show (if i < 160 then some (86 + i) else none) = _
  exact if_pos h
theorem KF_85 {i : Nat} (h : i < 160) : m_K (86 + i) = (1, 2) := of_decide_eq_true (List.all_eq_true.mp (show (List.range 160).all (fun i => decide (m_K (86 + i) = (1, 2))) = true by decide +kernel) i (List.mem_range.mpr h))
theorem RF_246 {i : Nat} (h : i < 160) : RF 246 i = some (247 + i) := by
  show (if i < 160 then some (247 + i) else none) = _
  exact if_pos h
theorem KF_246 {i : Nat} (h : i < 160) : m_K (247 + i) = (1, 2) := of_decide_eq_true (List.all_eq_true.mp (show (List.range 160).all (fun i => decide (m_K (247 + i) = (1, 2))) = true by decide +kernel) i (List.mem_range.mpr h))
theorem RF_407 {i : Nat} (h : i < 8) : RF 407 i = some (408 + i) := by
  show (if i < 8 then some (408 + i) else none) = _
  exact if_pos h
theorem KF_407 {i : Nat} (h : i < 8) : m_K (408 + i) = (1, 2) := of_decide_eq_true (List.all_eq_true.mp (show (List.range 8).all (fun i => decide (m_K (408 + i) = (1, 2))) = true by decide +kernel) i (List.mem_range.mpr h))
theorem RF_416 {i : Nat} (h : i < 8) : RF 416 i = some (417 + i) := by
  show (if i < 8 then some (417 + i) else none) = _
  exact if_pos h
theorem KF_416 {i : Nat} (h : i < 8) : m_K (417 + i) = (1, 2) := of_decide_eq_true (List.all_eq_true.mp (show (List.range 8).all (fun i => decide (m_K (417 + i) = (1, 2))) = true by decide +kernel) i (List.mem_range.mpr h))
theorem RF_427 {i : Nat} (h : i < 80) : RF 427 i = some (428 + i) := by
  show (if i < 80 then some (428 + i) else none) = _
  exact if_pos h
theorem KF_427 {i : Nat} (h : i < 80) : m_K (428 + i) = (1, 4) := of_decide_eq_true (List.all_eq_true.mp (show (List.range 80).all (fun i => decide (m_K (428 + i) = (1, 4))) = true by decide +kernel) i (List.mem_range.mpr h))
theorem RF_510 {i : Nat} (h : i < 16) : RF 510 i = some (511 + i) := by
  show (if i < 16 then some (511 + i) else none) = _
  exact if_pos h
theorem KF_510 {i : Nat} (h : i < 16) : m_K (511 + i) = (1, 29) := of_decide_eq_true (List.all_eq_true.mp (show (List.range 16).all (fun i => decide (m_K (511 + i) = (1, 29))) = true by decide +kernel) i (List.mem_range.mpr h))
theorem RF_527 {i : Nat} (h : i < 3) : RF 527 i = some (528 + i) := by
  show (if i < 3 then some (528 + i) else none) = _
  exact if_pos h
theorem KF_527 {i : Nat} (h : i < 3) : m_K (528 + i) = (1, 494) := of_decide_eq_true (List.all_eq_true.mp (show (List.range 3).all (fun i => decide (m_K (528 + i) = (1, 494))) = true by decide +kernel) i (List.mem_range.mpr h))
