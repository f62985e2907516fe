/-! ===== the constructors: one evaluation by the kernel ===== -/
def c_hA : MH := (1, 16, m_row (fun _ _ => none) 0 (fun _ => none), m_row (fun _ _ => 0) 0 (fun _ => 0), fun _ _ => 0)
def c_hB (h : MH) : MH := (h.1 + 1, h.2.1 + 48, m_row h.2.2.1 h.1 (fun _ => none), m_row h.2.2.2.1 h.1 (fun _ => 0), h.2.2.2.2)
def c_hC (h : MH) : MH := (h.1 + 1, h.2.1 + 1, h.2.2.1, m_row h.2.2.2.1 h.1 (fun _ => 0), m_row h.2.2.2.2 h.1 (fun _ => 0))
def c_cells : List Nat := [0, 1, 3, 9, 15, 20, 23, 28, 30, 32, 36, 42, 44, 46, 51, 60, 69, 76, 85, 246, 407, 416, 427, 510, 527]
def c_facts : List (Nat × Nat × Int32) := [(0, 13, 0), (0, 14, 0), (0, 15, 0), (1, 1, 0), (1, 6, (-1)), (46, 0, 0), (46, 1, 0), (46, 3, (-1)), (46, 19, 0), (46, 33, 0), (46, 34, 0), (46, 35, 0), (46, 36, 0), (48, 0, 0), (48, 1, 0), (3, 5, 0), (3, 6, 0), (3, 7, 12), (50, 0, 0), (50, 1, 0), (50, 2, 12), (15, 4, 7), (16, 0, (-1)), (16, 1, (-3)), (16, 2, (-9)), (16, 3, (-4)), (16, 4, 4), (16, 5, (-12)), (16, 6, (-10)), (20, 2, 0), (21, 0, (-1)), (21, 1, (-1)), (21, 2, (-1)), (21, 3, (-1)), (21, 4, (-1)), (21, 5, (-1)), (21, 6, (-1)), (21, 7, (-1)), (29, 0, (-1)), (29, 1, (-1)), (29, 2, (-1)), (29, 3, (-1)), (29, 4, (-1)), (29, 5, (-1)), (29, 6, (-1)), (29, 7, (-1)), (29, 8, 5), (29, 9, 5), (29, 10, 5), (29, 11, 5), (29, 12, 5), (29, 13, 5), (29, 14, 5), (29, 15, 5), (29, 16, 0), (29, 17, 0), (29, 18, 0), (29, 19, 0), (29, 20, 0), (29, 21, 0), (29, 22, 0), (29, 23, 0), (29, 24, 0), (29, 25, 0), (29, 26, 0), (29, 27, 0), (29, 28, 0), (508, 0, (-1)), (508, 1, (-1)), (508, 2, (-1)), (508, 3, (-1)), (508, 4, (-1)), (508, 5, (-1)), (508, 6, (-1)), (508, 7, (-1)), (508, 8, 5), (508, 9, 5), (508, 10, 5), (508, 11, 5), (508, 12, 5), (508, 13, 5), (508, 14, 5), (508, 15, 5), (508, 16, 0), (508, 17, 0), (508, 18, 0), (508, 19, 0), (508, 20, 0), (508, 21, 0), (508, 22, 0), (508, 23, 0), (508, 24, 0), (508, 25, 0), (508, 26, 0), (508, 27, 0), (508, 28, 0), (32, 3, 0), (32, 4, 0), (36, 5, 0)]
def c_chk (h : MH) : Bool := decide (h.2.1 = 8980) && (c_cells.all (fun c => (List.range 200).all (fun j => decide (h.2.2.1 c j = RF c j))) && c_facts.all (fun q => decide (h.2.2.2.1 q.1 q.2.1 = q.2.2)))
def c_run (E : MEnv) : Bool := match m_run 6000 E 1 0 [some (.ref 0)] [] c_hA with
  | some (.inl none, h2) => decide (h2.1 = 46) && (match m_run 6000 E 17 0 [some (.ref 46)] [] (c_hB h2) with
    | some (.inl none, h4) => decide (h4.1 = 536) && c_chk (c_hC h4)
    | _ => false)
  | _ => false
theorem c_ok : c_run (16, 0, fun _ => 0) = true := by decide +kernel
theorem c_RFoff {c : Nat} (h : c ∉ c_cells) (j : Nat) : RF c j = none := by
  unfold c_cells at h
  simp only [List.mem_cons, List.not_mem_nil, or_false, not_or] at h
  unfold RF
  repeat' split
  all_goals first | rfl | (exfalso; simp_all; done)
theorem c_RFbig {c j : Nat} (h : 200 ≤ j) : RF c j = none := by
  unfold RF
  repeat' split
  all_goals first
    | rfl
    | omega
    | (rw [List.getD_eq_getElem?_getD, List.getElem?_eq_none (by simp; omega)]; rfl)
theorem c_K : ∀ i : Fin 537, i.val ∈ c_cells ∨ ((m_K i.val).1 = 1 ∨ (m_K i.val).1 = 2 ∨ (m_K i.val).1 = 3) := by decide +kernel
theorem c_R {h : MH} (hs : n9_s h) (hz : h.1 = 537) (hc : c_chk h = true) : h.2.2.1 = RF := by
  simp only [c_chk, Bool.and_eq_true] at hc
  funext c j
  by_cases hj : 200 ≤ j
  · rw [hs c j (Or.inr (Or.inl hj)), c_RFbig hj]
  · by_cases hm : c ∈ c_cells
    · exact of_decide_eq_true (List.all_eq_true.mp (List.all_eq_true.mp hc.2.1 c hm) j (List.mem_range.mpr (by omega)))
    · rw [c_RFoff hm]
      by_cases h5 : c < 537
      · rcases c_K ⟨c, h5⟩ with q | q
        · exact absurd q hm
        · exact hs c j (Or.inr (Or.inr q))
      · exact hs c j (Or.inl (by omega))
/-- what the first cells hold -/
def c_I0 (I : II) : Prop := ∀ q ∈ c_facts, I q.1 q.2.1 = q.2.2
theorem c_call {E E' : MEnv} {k ip pc : Nat} {ins : Instr} {info : List Nat} {loc : MLoc} {st as rest : List Value} {y : Nat} {h h1 : MH} {v : Option Value} {r : MOut × MH} {n m : Nat} (hc : m_code k ip = some (4, pc, ins, info)) (hm : m_call E info st = some (y, as, rest, E')) {loc' : MLoc} (hl : m_eloc (m_maxl y) as = loc') (hr : m_run n E' y 0 loc' [] h = some (.inl v, h1)) (hn : m_run m E k (ip + 1) loc (v.toList ++ rest) h1 = some r) : m_run (n + m + 1) E k ip loc st h = some r := by
  subst hl
  rw [m_run_S]
  unfold m_step
  rw [hc]
  simp only [hm, m_run_le (Nat.le_add_right n m) hr]
  exact m_run_le (Nat.le_add_left m n) hn
theorem c_heap {E : MEnv} {k ip pc : Nat} {ins : Instr} {info : List Nat} {loc : MLoc} {st st' : List Value} {h h1 : MH} {r : MOut × MH} {m : Nat} (hc : m_code k ip = some (1, pc, ins, info)) (hh : m_heap E ins info st h = some (st', h1)) (hn : m_run m E k (ip + 1) loc st' h1 = some r) : m_run (m + 1) E k ip loc st h = some r := by
  rw [m_run_S]
  unfold m_step
  rw [hc]
  simp only [hh]
  exact hn
/-- from the law's first step to the head of its loop -/
theorem c_begin (X : Nat × (Nat → Int32)) : ∃ (I : II) (J : Nat → Nat → Int64), c_I0 I ∧ ∀ Q : QQ, ev (16, X) 0 13 [some (.ref 2000000), some (.ref 0), some (.ref 46), some (.ref 536), some (.int 0), none, none, none] [] I (J, 537, 8980) Q →
    ∃ (n : Nat) (o : MOut) (I' : II) (T' : TT), m_run n (16, X) 0 0 (m_eloc 8 [.ref 2000000]) [] m_h0 = some (o, hp I' T') ∧ Q o I' T' := by
  have h := c_ok
  unfold c_run at h
  split at h
  · rename_i h2 e2
    rw [Bool.and_eq_true, decide_eq_true_eq] at h
    obtain ⟨hz2, h⟩ := h
    split at h
    · rename_i h4 e4
      rw [Bool.and_eq_true, decide_eq_true_eq] at h
      obtain ⟨hz4, hchk⟩ := h
      have nA : n9_h c_hA := fun c j d q => by
        by_cases e : c = 0
        · subst e; cases q
        · have : (m_row (fun _ _ => none) 0 (fun _ => none) : Nat → Nat → Option Nat) c j = some d := q
          rw [m_row_ne e] at this; cases this
      have sA : n9_s c_hA := fun c j _ => by
        by_cases e : c = 0
        · subst e; rfl
        · show (m_row (fun _ _ => none) 0 (fun _ => none) : Nat → Nat → Option Nat) c j = none
          rw [m_row_ne e]
      have rA : m_HR c_hA := fun c j d q => by
        by_cases e : c = 0
        · subst e; cases q
        · have : (m_row (fun _ _ => none) 0 (fun _ => none) : Nat → Nat → Option Nat) c j = some d := q
          rw [m_row_ne e] at this; cases this
      have v0 : n9_l [some (.ref 0)] := fun v hv => by
        rcases List.mem_singleton.mp hv with h9
        cases h9
        exact n9_ref (by decide)
      have o0 : m_okl c_hA [some (.ref 0)] := fun v hv => by
        rcases List.mem_singleton.mp hv with h9
        cases h9
        exact Or.inl ⟨by decide, by decide⟩
      obtain ⟨f2, n2, s2, -⟩ := n9_run 6000 16 (0, fun _ => 0) X 1 0 _ [] c_hA _ h2 e2 v0 (fun v hv => by cases hv) nA sA o0 (fun v hv => by cases hv) rA
      obtain ⟨-, -, r2, -⟩ := m_run_ok 6000 _ 1 0 _ [] c_hA _ h2 e2 o0 (fun v hv => by cases hv) rA
      have hB : h_new [11, 1434] [] h2 = some ([.ref h2.1], c_hB h2) := by
        show (if h2.1 < 1000000 ∧ m_K h2.1 = (10 + 11, m_nf 11) ∧ 11 < 12 then _ else none) = _
        rw [if_pos ⟨by omega, by rw [hz2]; decide +kernel, by decide⟩]
        rfl
      have hpB : m_heap (16, X) (.new 114) [11, 1434] [] h2 = some ([.ref h2.1], c_hB h2) := hB
      obtain ⟨b1, nB, sB⟩ := n9_heap hpB (fun v hv => by cases hv) n2 s2 (fun v hv => by cases hv)
      obtain ⟨-, -, b2, rB⟩ := m_heap_ok hpB (fun v hv => by cases hv) r2
      have v1 : n9_l [some (.ref 46)] := fun v hv => by
        rcases List.mem_singleton.mp hv with h9
        cases h9
        exact n9_ref (by decide)
      have o1 : m_okl (c_hB h2) [some (.ref 46)] := fun v hv => by
        rcases List.mem_singleton.mp hv with h9
        cases h9
        rw [← hz2]
        exact b2 _ List.mem_cons_self
      obtain ⟨f4, n4, s4, -⟩ := n9_run 6000 16 (0, fun _ => 0) X 17 0 _ [] _ _ h4 e4 v1 (fun v hv => by cases hv) nB sB o1 (fun v hv => by cases hv) rB
      obtain ⟨-, -, r4, -⟩ := m_run_ok 6000 _ 17 0 _ [] _ _ h4 e4 o1 (fun v hv => by cases hv) rB
      have hC : h_newa .long [.int 1] h4 = some ([.ref h4.1], c_hC h4) := by
        show (if ¬ (1 : Int32) < 0 ∧ h4.1 < 1000000 ∧ Int32.toNatClampNeg 1 ≤ 100000 ∧ _ then _ else none) = _
        rw [if_pos ⟨by decide, by omega, by decide, Or.inr (Or.inr ⟨rfl, by rw [hz4]; decide +kernel⟩)⟩]
        rfl
      have hpC : m_heap (16, X) (.newarray .long) [] [.int 1] h4 = some ([.ref h4.1], c_hC h4) := hC
      obtain ⟨d1, nC, sC⟩ := n9_heap hpC (fun v hv => by rcases List.mem_singleton.mp hv with rfl; exact n9_i _) n4 s4 (fun v hv => by rcases List.mem_singleton.mp hv with rfl; trivial)
      have hz5 : (c_hC h4).1 = 537 := by show h4.1 + 1 = 537; omega
      have hR := c_R sC hz5 hchk
      have hk := hchk
      simp only [c_chk, Bool.and_eq_true, decide_eq_true_eq] at hk
      refine ⟨(c_hC h4).2.2.2.1, (c_hC h4).2.2.2.2, fun q hq => of_decide_eq_true (List.all_eq_true.mp hk.2.2 q hq), fun Q hev => ?_⟩
      obtain ⟨n, o, I', T', g1, g2⟩ := hev
      have hh : c_hC h4 = hp (c_hC h4).2.2.2.1 ((c_hC h4).2.2.2.2, 537, 8980) := by
        show c_hC h4 = (537, 8980, RF, (c_hC h4).2.2.2.1, (c_hC h4).2.2.2.2)
        rw [← hR, ← hk.1, ← hz5]
      rw [← hh] at g1
      -- behind the array
      have k10 : m_run (3 + n) (16, X) 0 10 [some (.ref 2000000), some (.ref 0), some (.ref 46), none, none, none, none, none] [.ref 536] (c_hC h4) = some (o, hp I' T') := m_seq_run 3 (ip' := 13) (loc' := [some (.ref 2000000), some (.ref 0), some (.ref 46), some (.ref 536), some (.int 0), none, none, none]) (st' := []) rfl g1
      rw [← hz4] at k10
      have k9 := c_heap (E := (16, X)) (k := 0) (ip := 9) (loc := [some (.ref 2000000), some (.ref 0), some (.ref 46), none, none, none, none, none]) rfl hpC k10
      have k7 : m_run (2 + (3 + n + 1)) (16, X) 0 7 [some (.ref 2000000), some (.ref 0), none, none, none, none, none, none] [.ref 46] h4 = some (o, hp I' T') := m_seq_run 2 (ip' := 9) (loc' := [some (.ref 2000000), some (.ref 0), some (.ref 46), none, none, none, none, none]) (st' := [.int 1]) rfl k9
      have k6 : m_run (6000 + (2 + (3 + n + 1)) + 1) (16, X) 0 6 [some (.ref 2000000), some (.ref 0), none, none, none, none, none, none] [.ref 46, .ref 46] (c_hB h2) = some (o, hp I' T') := c_call (v := none) rfl rfl rfl f4 k7
      have k5 : m_run (1 + (6000 + (2 + (3 + n + 1)) + 1)) (16, X) 0 5 [some (.ref 2000000), some (.ref 0), none, none, none, none, none, none] [.ref 46] (c_hB h2) = some (o, hp I' T') := m_seq_run 1 (ip' := 6) (loc' := [some (.ref 2000000), some (.ref 0), none, none, none, none, none, none]) (st' := [.ref 46, .ref 46]) rfl k6
      rw [← hz2] at k5
      have k4 := c_heap (E := (16, X)) (k := 0) (ip := 4) (loc := [some (.ref 2000000), some (.ref 0), none, none, none, none, none, none]) rfl hpB k5
      have k3 : m_run (1 + (1 + (6000 + (2 + (3 + n + 1)) + 1) + 1)) (16, X) 0 3 [some (.ref 2000000), none, none, none, none, none, none, none] [.ref 0] h2 = some (o, hp I' T') := m_seq_run 1 (ip' := 4) (loc' := [some (.ref 2000000), some (.ref 0), none, none, none, none, none, none]) (st' := []) rfl k4
      have k2 : m_run (6000 + (1 + (1 + (6000 + (2 + (3 + n + 1)) + 1) + 1)) + 1) (16, X) 0 2 [some (.ref 2000000), none, none, none, none, none, none, none] [.ref 0, .ref 0] c_hA = some (o, hp I' T') := c_call (v := none) rfl rfl rfl f2 k3
      have k0 : m_run (2 + (6000 + (1 + (1 + (6000 + (2 + (3 + n + 1)) + 1) + 1)) + 1)) (16, X) 0 0 [some (.ref 2000000), none, none, none, none, none, none, none] [] m_h0 = some (o, hp I' T') := m_seq_run 2 (ip' := 2) (loc' := [some (.ref 2000000), none, none, none, none, none, none, none]) (st' := [.ref 0, .ref 0]) rfl k2
      exact ⟨_, o, I', T', k0, g2⟩
    · cases h
  · cases h
