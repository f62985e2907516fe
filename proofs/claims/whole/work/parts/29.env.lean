/-! ===== a run that has not met the script does not ask it; and no references lie beyond the cells ===== -/
def n9_v (v : Value) : Prop := v ≠ .ref 2000000
def n9_l (loc : MLoc) : Prop := ∀ v, some v ∈ loc → n9_v v
theorem n9_i (x : Int32) : n9_v (.int x) := fun h => by cases h
theorem n9_j (x : Int64) : n9_v (.long x) := fun h => by cases h
theorem n9_clr {a : Option Value} {v : Value} (hv : some v = m_clr a) (k : ∀ w, a = some w → n9_v w) : n9_v v := k v (m_clr_some hv.symm).1
theorem n9_st1 : ∀ (loc : MLoc) (i : Nat) (w : Value), n9_l loc → n9_v w → n9_l (m_st1 loc i w)
  | [], i, w, k, kw => by intro v hv; simp [m_st1] at hv
  | a :: l, 0, w, k, kw => by
    intro v hv
    simp only [m_st1, List.mem_cons] at hv
    rcases hv with hv | hv
    · cases hv; exact kw
    · exact k v (List.mem_cons_of_mem _ hv)
  | [a], 1, w, k, kw => by intro v hv; simp [m_st1] at hv
  | a :: b :: l, 1, w, k, kw => by
    intro v hv
    simp only [m_st1, List.mem_cons] at hv
    rcases hv with hv | hv | hv
    · exact n9_clr hv (fun w hw => k w (by rw [hw]; exact List.mem_cons_self))
    · cases hv; exact kw
    · exact k v (List.mem_cons_of_mem _ (List.mem_cons_of_mem _ hv))
  | a :: l, i + 2, w, k, kw => by
    intro v hv
    simp only [m_st1, List.mem_cons] at hv
    rcases hv with hv | hv
    · exact k v (by rw [hv]; exact List.mem_cons_self)
    · exact n9_st1 l (i + 1) w (fun u hu => k u (List.mem_cons_of_mem _ hu)) kw v hv
theorem n9_st2 : ∀ (loc : MLoc) (i : Nat) (w : Value), n9_l loc → n9_v w → n9_l (m_st2 loc i w)
  | [], i, w, k, kw => by intro v hv; simp [m_st2] at hv
  | [a], i, w, k, kw => by intro v hv; simp [m_st2] at hv
  | a :: b :: l, 0, w, k, kw => by
    intro v hv
    simp only [m_st2, List.mem_cons] at hv
    rcases hv with hv | hv | hv
    · cases hv; exact kw
    · cases hv
    · exact k v (List.mem_cons_of_mem _ (List.mem_cons_of_mem _ hv))
  | [a, b], 1, w, k, kw => by intro v hv; simp [m_st2] at hv
  | a :: b :: d :: l, 1, w, k, kw => by
    intro v hv
    simp only [m_st2, List.mem_cons] at hv
    rcases hv with hv | hv | hv | hv
    · exact n9_clr hv (fun w hw => k w (by rw [hw]; exact List.mem_cons_self))
    · cases hv; exact kw
    · cases hv
    · exact k v (List.mem_cons_of_mem _ (List.mem_cons_of_mem _ (List.mem_cons_of_mem _ hv)))
  | a :: b :: l, i + 2, w, k, kw => by
    intro v hv
    simp only [m_st2, List.mem_cons] at hv
    rcases hv with hv | hv
    · exact k v (by rw [hv]; exact List.mem_cons_self)
    · exact n9_st2 (b :: l) (i + 1) w (fun u hu => k u (List.mem_cons_of_mem _ hu)) kw v hv
theorem n9_cons {v : Value} {st : List Value} (kv : n9_v v) (k : ∀ w ∈ st, n9_v w) : ∀ w ∈ v :: st, n9_v w := fun w hw => by
  rcases List.mem_cons.mp hw with rfl | hw
  · exact kv
  · exact k w hw
theorem n9_tl {v : Value} {st : List Value} (k : ∀ w ∈ v :: st, n9_v w) : ∀ w ∈ st, n9_v w := fun w hw => k w (List.mem_cons_of_mem _ hw)
set_option maxHeartbeats 2000000 in
theorem n9_pure {ins : Instr} {loc loc' : MLoc} {st st' : List Value} (hp : m_pure ins loc st = some (loc', st')) (k1 : n9_l loc) (k2 : ∀ v ∈ st, n9_v v) : n9_l loc' ∧ ∀ v ∈ st', n9_v v := by
  cases ins <;> simp only [m_pure, q_i2, q_i2d, q_i1, q_l2, q_l2d, q_lcmp, q_lshl, q_i2l, q_ild, q_lld, q_ald, q_ist, q_ast, q_lst, q_inc, q_dup, q_dup2, q_pop] at hp <;>
    first
    | (cases hp; done)
    | (cases hp; exact ⟨k1, n9_cons (by first | exact n9_i _ | exact n9_j _) k2⟩)
    | (split at hp
       · first
         | (cases hp; exact ⟨k1, n9_cons (by first | exact n9_i _ | exact n9_j _) (n9_tl (n9_tl k2))⟩)
         | (cases hp; exact ⟨k1, n9_cons (by first | exact n9_i _ | exact n9_j _) (n9_tl k2)⟩)
         | (cases hp; exact ⟨k1, n9_cons (by first | exact n9_i _ | exact n9_j _) k2⟩)
         | (rename_i x hx; cases hp; exact ⟨k1, n9_cons (k1 _ (List.mem_of_getElem? hx)) k2⟩)
         | (cases hp; exact ⟨n9_st1 _ _ _ k1 (n9_i _), k2⟩)
         | (split at hp
            · first
              | (cases hp; done)
              | (cases hp; exact ⟨n9_st1 _ _ _ k1 (k2 _ List.mem_cons_self), n9_tl k2⟩)
              | (cases hp; exact ⟨n9_st2 _ _ _ k1 (k2 _ List.mem_cons_self), n9_tl k2⟩)
              | (cases hp; exact ⟨k1, n9_cons (k2 _ List.mem_cons_self) k2⟩)
              | (cases hp; exact ⟨k1, n9_cons (k2 _ List.mem_cons_self) (n9_cons (k2 _ (List.mem_cons_of_mem _ List.mem_cons_self)) k2)⟩)
              | (cases hp; exact ⟨k1, n9_tl k2⟩)
            · first
              | (cases hp; done)
              | (cases hp; exact ⟨k1, n9_cons (by first | exact n9_i _ | exact n9_j _) (n9_tl (n9_tl k2))⟩))
       · cases hp)
def n9_h (h : MH) : Prop := ∀ c j d, h.2.2.1 c j = some d → d ≠ 2000000
def n9_s (h : MH) : Prop := ∀ c j, (h.1 ≤ c ∨ 200 ≤ j ∨ ((m_K c).1 = 1 ∨ (m_K c).1 = 2 ∨ (m_K c).1 = 3)) → h.2.2.1 c j = none
theorem n9_ref {c : Nat} (h : c ≠ 2000000) : n9_v (.ref c) := fun q => by cases q; exact h rfl
theorem n9_rf {h : MH} (k : n9_h h) (c j : Nat) : n9_v (va_rf (h.2.2.1 c j)) := by
  cases hx : h.2.2.1 c j with
  | none => exact fun q => by cases q
  | some d => exact n9_ref (k c j d hx)
theorem n9_nf (ci : Nat) : m_nf ci ≤ 48 := by
  by_cases h : ci < 12
  · have : ∀ i : Fin 12, m_nf i.val ≤ 48 := by decide +kernel
    exact this ⟨ci, h⟩
  · unfold m_nf
    rw [List.getD_eq_getElem?_getD, List.getElem?_eq_none (by simp; omega)]
    exact Nat.zero_le _
theorem n9_K4 {c n : Nat} (h : m_K c = (4, n)) : n ≤ 200 := by
  by_cases hc : c < 537
  · have : ∀ i : Fin 537, (m_K1 i.val).2 ≤ 2000 ∧ ((m_K1 i.val).1 = 4 → (m_K1 i.val).2 ≤ 200) := by decide +kernel
    rw [m_K, if_pos hc] at h
    have h2 := (this ⟨c, hc⟩).2
    simp only [h] at h2
    exact h2 trivial
  · rw [m_K, if_neg hc] at h
    unfold m_K2 at h
    split at h
    · cases h
    · split at h
      · cases h
      · split at h
        · cases h
        · split at h
          · cases h
          · split at h
            · cases h
            · cases h
theorem n9_alen {E E' : MEnv} {st : List Value} {h : MH} (k : ∀ v ∈ st, n9_v v) : h_alen E st h = h_alen E' st h := by
  unfold h_alen
  split
  · rename_i c r
    split
    · rfl
    · have : c ≠ 2000000 := fun q => k (.ref c) List.mem_cons_self (by rw [q])
      rw [if_neg this, if_neg this]
  · rfl
theorem n9_iald {E E' : MEnv} {st : List Value} {h : MH} (k : ∀ v ∈ st, n9_v v) : h_iald E st h = h_iald E' st h := by
  unfold h_iald
  split
  · rename_i i c r
    split
    · rfl
    · have : c ≠ 2000000 := fun q => k (.ref c) (List.mem_cons_of_mem _ List.mem_cons_self) (by rw [q])
      rw [if_neg this, if_neg this]
  · rfl
theorem n9_env {E E' : MEnv} {ins : Instr} {info : List Nat} {st : List Value} {h : MH} (k : ∀ v ∈ st, n9_v v) : m_heap E ins info st h = m_heap E' ins info st h := by
  cases ins <;> first | rfl | exact n9_iald k | exact n9_alen k
set_option maxHeartbeats 2000000 in
theorem n9_heap {E : MEnv} {h h' : MH} {ins : Instr} {info : List Nat} {st st' : List Value} (hp : m_heap E ins info st h = some (st', h')) (k2 : ∀ v ∈ st, n9_v v) (k3 : n9_h h) (k4 : n9_s h) (k5 : ∀ v ∈ st, m_okv h v) : (∀ v ∈ st', n9_v v) ∧ n9_h h' ∧ n9_s h' := by
  cases ins <;> simp only [m_heap] at hp <;> try (cases hp; done)
  case getfield =>
    unfold h_get at hp
    split at hp
    · rename_i ci j inf x r
      split at hp
      · cases hp
        refine ⟨n9_cons ?_ (n9_tl k2), k3, k4⟩
        split
        · exact n9_i _
        · exact n9_rf k3 _ _
      · split at hp
        · rename_i hc
          split at hp
          · cases hp
            have := m_K_txt hc.1
            exact ⟨n9_cons (n9_ref (by omega)) (n9_tl k2), k3, k4⟩
          · split at hp
            · cases hp
              exact ⟨n9_cons (n9_i _) (n9_tl k2), k3, k4⟩
            · cases hp
        · cases hp
    · cases hp
  case putfield =>
    unfold h_put at hp
    split at hp
    · split at hp
      · cases hp
        exact ⟨n9_tl (n9_tl k2), k3, k4⟩
      · cases hp
    · rename_i ci j inf d x r
      split at hp
      · rename_i hc
        cases hp
        refine ⟨n9_tl (n9_tl k2), fun a b d2 hd => ?_, fun a b hab => ?_⟩
        · by_cases ha : a = x
          · subst ha
            simp only [m_up_at] at hd
            split at hd
            · cases hd
              exact fun q => k2 (.ref d) List.mem_cons_self (by rw [q])
            · exact k3 a b d2 hd
          · simp only [m_up_ne ha] at hd
            exact k3 a b d2 hd
        · have hxl : x < h.1 := by
            have hl : m_live h x := k5 (.ref x) (List.mem_cons_of_mem _ List.mem_cons_self)
            have := n9_nf ci
            by_cases h12 : ci < 12
            · exact m_live_own hl (m_K_lt hc.1 (by omega) (by omega) (by omega) (by omega))
            · have h0 : m_nf ci = 0 := by
                unfold m_nf
                rw [List.getD_eq_getElem?_getD, List.getElem?_eq_none (by simp; omega)]
                rfl
              omega
          have hjn := n9_nf ci
          have hj : j < m_nf ci := hc.2.1
          have hab : h.1 ≤ a ∨ 200 ≤ b ∨ ((m_K a).1 = 1 ∨ (m_K a).1 = 2 ∨ (m_K a).1 = 3) := hab
          by_cases ha : a = x
          · subst ha
            show m_up h.2.2.1 a j (some d) a b = none
            have hbj : ¬ b = j := by
              rcases hab with q | q | q
              · exact absurd hxl (Nat.not_lt.mpr q)
              · omega
              · have h8 := hc.1
                rw [h8] at q
                simp only at q
                omega
            rw [m_up_at, if_neg hbj]
            exact k4 a b hab
          · show m_up h.2.2.1 x j (some d) a b = none
            rw [m_up_ne ha]
            exact k4 a b hab
      · cases hp
    · cases hp
  case iaload =>
    unfold h_iald at hp
    split at hp
    · split at hp
      · split at hp
        · cases hp
        · cases hp
          exact ⟨n9_cons (n9_i _) (n9_tl (n9_tl k2)), k3, k4⟩
      · split at hp
        · split at hp
          · cases hp
          · cases hp
            exact ⟨n9_cons (n9_i _) (n9_tl (n9_tl k2)), k3, k4⟩
        · cases hp
    · cases hp
  case baload =>
    unfold h_bald at hp
    split at hp
    · split at hp
      · split at hp
        · cases hp
        · cases hp
          exact ⟨n9_cons (n9_i _) (n9_tl (n9_tl k2)), k3, k4⟩
      · split at hp
        · split at hp
          · cases hp
          · cases hp
            exact ⟨n9_cons (n9_i _) (n9_tl (n9_tl k2)), k3, k4⟩
        · cases hp
    · cases hp
  case laload =>
    unfold h_lald at hp
    split at hp
    · split at hp
      · split at hp
        · cases hp
        · cases hp
          exact ⟨n9_cons (n9_j _) (n9_tl (n9_tl k2)), k3, k4⟩
      · cases hp
    · cases hp
  case aaload =>
    unfold h_aald at hp
    split at hp
    · split at hp
      · split at hp
        · cases hp
        · cases hp
          exact ⟨n9_cons (n9_rf k3 _ _) (n9_tl (n9_tl k2)), k3, k4⟩
      · cases hp
    · cases hp
  case iastore =>
    unfold h_iast at hp
    split at hp
    · split at hp
      · split at hp
        · cases hp
        · cases hp
          exact ⟨n9_tl (n9_tl (n9_tl k2)), k3, k4⟩
      · cases hp
    · cases hp
  case bastore =>
    unfold h_bast at hp
    split at hp
    · split at hp
      · split at hp
        · cases hp
        · cases hp
          exact ⟨n9_tl (n9_tl (n9_tl k2)), k3, k4⟩
      · cases hp
    · cases hp
  case lastore =>
    unfold h_last at hp
    split at hp
    · split at hp
      · split at hp
        · cases hp
        · cases hp
          exact ⟨n9_tl (n9_tl (n9_tl k2)), k3, k4⟩
      · cases hp
    · cases hp
  case arraylength =>
    unfold h_alen at hp
    split at hp
    · split at hp
      · cases hp
        exact ⟨n9_cons (n9_i _) (n9_tl k2), k3, k4⟩
      · split at hp
        · cases hp
          exact ⟨n9_cons (n9_i _) (n9_tl k2), k3, k4⟩
        · cases hp
    · cases hp
  case ldc =>
    unfold h_ldc at hp
    split at hp
    · cases hp
      exact ⟨n9_cons (n9_i _) k2, k3, k4⟩
    · split at hp
      · cases hp
        exact ⟨n9_cons (n9_ref (by omega)) k2, k3, k4⟩
      · cases hp
    · cases hp
  case ldc_w =>
    unfold h_ldc at hp
    split at hp
    · cases hp
      exact ⟨n9_cons (n9_i _) k2, k3, k4⟩
    · split at hp
      · cases hp
        exact ⟨n9_cons (n9_ref (by omega)) k2, k3, k4⟩
      · cases hp
    · cases hp
  case getstatic =>
    unfold h_gst at hp
    split at hp
    · cases hp
      exact ⟨n9_cons (n9_i _) k2, k3, k4⟩
    · cases hp
      exact ⟨n9_cons (fun q => by cases q) k2, k3, k4⟩
    · cases hp
  case newarray t =>
    unfold h_newa at hp
    split at hp
    · rename_i n r
      split at hp
      · rename_i hc
        cases hp
        have h9 := hc.2.1
        refine ⟨n9_cons (n9_ref (by omega)) (n9_tl k2), k3, fun a b hab => k4 a b ?_⟩
        have hab : h.1 + 1 ≤ a ∨ 200 ≤ b ∨ ((m_K a).1 = 1 ∨ (m_K a).1 = 2 ∨ (m_K a).1 = 3) := hab
        omega
      · cases hp
    · cases hp
  case multianewarray =>
    unfold h_mna at hp
    split at hp
    · rename_i k n r
      split at hp
      · rename_i hc
        cases hp
        obtain ⟨c1, c2, c3, c4, c5, c6, c7⟩ := hc
        have c8 := n9_K4 c6
        refine ⟨n9_cons (n9_ref (by omega)) (n9_tl (n9_tl k2)), fun a b d hd => ?_, fun a b hab => ?_⟩
        · by_cases ha : a = h.1
          · subst ha
            simp only [m_row_at] at hd
            split at hd
            · cases hd
              omega
            · cases hd
          · simp only [m_row_ne ha] at hd
            exact k3 a b d hd
        · have hab : h.1 + (1 + n.toNatClampNeg) ≤ a ∨ 200 ≤ b ∨ ((m_K a).1 = 1 ∨ (m_K a).1 = 2 ∨ (m_K a).1 = 3) := hab
          by_cases ha : a = h.1
          · subst ha
            simp only [m_row_at]
            rcases hab with q | q | q
            · exact if_neg (by omega)
            · exact if_neg (by omega)
            · rw [c6] at q
              simp only at q
              omega
          · simp only [m_row_ne ha]
            exact k4 a b (by omega)
      · cases hp
    · cases hp
  case new =>
    unfold h_new at hp
    split at hp
    · rename_i ci inf
      split at hp
      · rename_i hc
        cases hp
        have h9 := hc.1
        refine ⟨n9_cons (n9_ref (by omega)) k2, fun a b d hd => ?_, fun a b hab => ?_⟩
        · by_cases ha : a = h.1
          · subst ha
            simp only [m_row_at] at hd
            cases hd
          · simp only [m_row_ne ha] at hd
            exact k3 a b d hd
        · have hab : h.1 + 1 ≤ a ∨ 200 ≤ b ∨ ((m_K a).1 = 1 ∨ (m_K a).1 = 2 ∨ (m_K a).1 = 3) := hab
          by_cases ha : a = h.1
          · subst ha
            simp only [m_row_at]
          · simp only [m_row_ne ha]
            exact k4 a b (by omega)
      · cases hp
    · cases hp
theorem n9_copy {h h' : MH} {st st' : List Value} (hp : m_copy st h = some (st', h')) (k2 : ∀ v ∈ st, n9_v v) (k3 : n9_h h) (k4 : n9_s h) : (∀ v ∈ st', n9_v v) ∧ n9_h h' ∧ n9_s h' := by
  unfold m_copy at hp
  split at hp
  · split at hp
    · cases hp
      exact ⟨n9_tl (n9_tl (n9_tl (n9_tl (n9_tl k2)))), k3, k4⟩
    · cases hp
  · cases hp
theorem n9_jump {ins : Instr} {info : List Nat} {ip ip' : Nat} {st st' : List Value} (hp : m_jump ins info ip st = some (ip', st')) (k : ∀ v ∈ st, n9_v v) : ∀ v ∈ st', n9_v v := by
  unfold m_jump at hp
  split at hp <;> first
    | (split at hp
       · cases hp
         first | exact k | exact n9_tl k
       · cases hp)
    | (unfold j_1 at hp
       split at hp
       · cases hp; exact n9_tl k
       · cases hp)
    | (unfold j_2 at hp
       split at hp
       · cases hp; exact n9_tl (n9_tl k)
       · cases hp)
    | cases hp
theorem n9_math {info : List Nat} {st st' : List Value} (hp : m_math info st = some st') (k : ∀ v ∈ st, n9_v v) : ∀ v ∈ st', n9_v v := by
  unfold m_math at hp
  split at hp
  · cases hp; exact n9_cons (n9_i _) (n9_tl (n9_tl k))
  · cases hp; exact n9_cons (n9_i _) (n9_tl (n9_tl k))
  · cases hp; exact n9_cons (n9_i _) (n9_tl k)
  · cases hp
theorem n9_ret {k : Nat} {ins : Instr} {st : List Value} {v : Option Value} (hp : m_ret k ins st = some v) : ∀ w ∈ v.toList, n9_v w := by
  unfold m_ret at hp
  split at hp
  · split at hp
    · cases hp; simp [n9_i]
    · split at hp
      · cases hp; simp [n9_i]
      · cases hp
    · split at hp
      · cases hp; simp [n9_i]
      · cases hp
    · split at hp
      · cases hp; simp [n9_i]
      · cases hp
    · cases hp
  · split at hp
    · cases hp; simp [n9_j]
    · cases hp
  · split at hp
    · cases hp; simp
    · cases hp
  · cases hp
theorem n9_eloc : ∀ (as : List Value) (n : Nat), (∀ v ∈ as, n9_v v) → n9_l (m_eloc n as)
  | [], n, _ => by
    intro v hv
    simp only [m_eloc] at hv
    cases List.eq_of_mem_replicate hv
  | v :: as, n, k => by
    have ih := n9_eloc as
    have k2 : ∀ v ∈ as, n9_v v := fun v hv => k v (List.mem_cons_of_mem _ hv)
    intro w hw
    by_cases hv : ∃ x, v = .long x
    · obtain ⟨x, rfl⟩ := hv
      simp only [m_eloc, List.mem_cons] at hw
      rcases hw with hw | hw | hw
      · cases hw; exact n9_j _
      · cases hw
      · exact ih (n - 2) k2 w hw
    · have h2 : m_eloc n (v :: as) = some v :: m_eloc (n - 1) as := by
        cases v with
        | long x => exact absurd ⟨x, rfl⟩ hv
        | _ => rfl
      rw [h2, List.mem_cons] at hw
      rcases hw with hw | hw
      · cases hw; exact k v List.mem_cons_self
      · exact ih (n - 1) k2 w hw
theorem n9_call {d : Nat} {X X' : Nat × (Nat → Int32)} {info : List Nat} {st : List Value} {q : Nat × List Value × List Value × MEnv} (hp : m_call (d, X) info st = some q) : ∃ d', q.2.2.2 = (d', X) ∧ m_call (d, X') info st = some (q.1, q.2.1, q.2.2.1, (d', X')) := by
  unfold m_call at hp ⊢
  split at hp
  · split at hp
    · rename_i hc
      split at hp
      · rename_i hr
        cases hp
        exact ⟨d, rfl, by rw [if_pos hc, if_pos hr]⟩
      · rename_i hr
        split at hp
        · cases hp
        · rename_i d' hd
          cases hp
          refine ⟨d', rfl, ?_⟩
          rw [if_pos hc, if_neg hr]
          have hd : d = d' + 1 := hd
          subst hd
          rfl
    · cases hp
  · cases hp
set_option maxHeartbeats 2000000 in
theorem n9_run : ∀ (n : Nat) (d : Nat) (X X' : Nat × (Nat → Int32)) (k ip : Nat) (loc : MLoc) (st : List Value) (h : MH) (o : MOut) (h' : MH), m_run n (d, X) k ip loc st h = some (o, h') → n9_l loc → (∀ v ∈ st, n9_v v) → n9_h h → n9_s h → m_okl h loc → (∀ v ∈ st, m_okv h v) → m_HR h → m_run n (d, X') k ip loc st h = some (o, h') ∧ n9_h h' ∧ n9_s h' ∧ ∀ v : Option Value, o = .inl v → ∀ w ∈ v.toList, n9_v w
  | 0, d, X, X', k, ip, loc, st, h, o, h', hr, _, _, _, _, _, _, _ => by cases hr
  | n + 1, d, X, X', k, ip, loc, st, h, o, h', hr, a1, a2, a3, a4, k1, k2, k3 => by
    have IH := n9_run n
    rw [m_run_S] at hr ⊢
    unfold m_step at hr ⊢
    cases hcode : m_code k ip with
    | none => rw [hcode] at hr; cases hr
    | some e9 =>
      obtain ⟨tag, pc, ins, info⟩ := e9
      rw [hcode] at hr
      simp only at hr ⊢
      split at hr
      · split at hr
        · cases hr
        · rename_i q hq
          obtain ⟨l', s'⟩ := q
          obtain ⟨b1, b2⟩ := n9_pure hq a1 a2
          obtain ⟨c1, c2⟩ := m_pure_ok hq k1 k2
          exact IH _ X X' _ _ _ _ _ _ _ hr b1 b2 a3 a4 c1 c2 k3
      · split at hr
        · cases hr
        · rename_i q hq
          obtain ⟨s', h1⟩ := q
          obtain ⟨b1, b2, b3⟩ := n9_heap hq a2 a3 a4 k2
          obtain ⟨c1, c2, c3, c4⟩ := m_heap_ok hq k2 k3
          rw [n9_env (E' := (d, X')) a2] at hq
          rw [hq]
          exact IH _ X X' _ _ _ _ _ _ _ hr a1 b1 b2 b3 (m_okl_mono c1 k1) c3 c4
      · split at hr
        · cases hr
        · rename_i q hq
          obtain ⟨i', s'⟩ := q
          exact IH _ X X' _ _ _ _ _ _ _ hr a1 (n9_jump hq a2) a3 a4 k1 (m_jump_ok hq k2) k3
      · split at hr
        · cases hr
        · rename_i v hv
          cases hr
          refine ⟨rfl, a3, a4, fun v2 e2 => ?_⟩
          cases e2
          exact n9_ret hv
      · split at hr
        · cases hr
        · rename_i q hq
          obtain ⟨y, as, rest, E'⟩ := q
          obtain ⟨n9, rc, kind, w, ci, inf, -, -, eas, erest, -, -, -, -⟩ := m_call_spec hq
          obtain ⟨d', hE, hc'⟩ := n9_call (X' := X') hq
          have hE : E' = (d', X) := hE
          subst hE
          rw [hc']
          simp only at hr ⊢
          have mas : ∀ v ∈ as, v ∈ st := fun v hv => List.mem_of_mem_take (by rw [eas] at hv; exact List.mem_reverse.mp hv)
          have mrest : ∀ v ∈ rest, v ∈ st := fun v hv => List.mem_of_mem_drop (by rw [erest] at hv; exact hv)
          split at hr
          · cases hr
          · rename_i v h1 hc
            obtain ⟨b1, b2, b3, b4⟩ := IH _ X X' _ _ _ _ _ _ _ hc (n9_eloc as _ (fun v hv => a2 v (mas v hv))) (fun v hv => by cases hv) a3 a4 (m_eloc_ok as _ (fun v hv => k2 v (mas v hv))) (fun v hv => by cases hv) k3
            obtain ⟨c1, c2, c3, c4⟩ := m_run_ok n _ _ _ _ _ _ _ _ hc (m_eloc_ok as _ (fun v hv => k2 v (mas v hv))) (fun v hv => by cases hv) k3
            rw [b1]
            exact IH _ X X' _ _ _ _ _ _ _ hr a1 (fun u hu => by
              rcases List.mem_append.mp hu with hu | hu
              · exact b4 v rfl u hu
              · exact a2 u (mrest u hu)) b2 b3 (m_okl_mono c1 k1) (fun u hu => by
              rcases List.mem_append.mp hu with hu | hu
              · exact c4 v rfl u hu
              · exact m_okv_mono c1 (k2 u (mrest u hu))) c3
          · rename_i x h1 hc
            obtain ⟨b1, b2, b3, b4⟩ := IH _ X X' _ _ _ _ _ _ _ hc (n9_eloc as _ (fun v hv => a2 v (mas v hv))) (fun v hv => by cases hv) a3 a4 (m_eloc_ok as _ (fun v hv => k2 v (mas v hv))) (fun v hv => by cases hv) k3
            obtain ⟨c1, c2, c3, c4⟩ := m_run_ok n _ _ _ _ _ _ _ _ hc (m_eloc_ok as _ (fun v hv => k2 v (mas v hv))) (fun v hv => by cases hv) k3
            rw [b1]
            simp only at hr ⊢
            split at hr
            · cases hr
            · rename_i hn
              rw [if_neg hn]
              split at hr
              · cases hr
                exact ⟨rfl, b2, b3, fun v e => by cases e⟩
              · exact IH _ X X' _ _ _ _ _ _ _ hr (fun v hv => by
                  obtain ⟨z, -, hz⟩ := List.mem_map.mp hv
                  cases hz) (fun v hv => by cases hv) b2 b3 (fun v hv => by
                  obtain ⟨z, -, hz⟩ := List.mem_map.mp hv
                  cases hz) (fun v hv => by cases hv) c3
      · split at hr
        · split at hr
          · rename_i hg
            cases hr
            refine ⟨if_pos hg, a3, fun a b hab => a4 a b ?_, fun v e => by cases e⟩
            have hab : h.1 + 1 ≤ a ∨ 200 ≤ b ∨ ((m_K a).1 = 1 ∨ (m_K a).1 = 2 ∨ (m_K a).1 = 3) := hab
            omega
          · cases hr
        · cases hr
      · split at hr
        · cases hr
        · rename_i q hq
          obtain ⟨s', h1⟩ := q
          obtain ⟨b1, b2, b3⟩ := n9_copy hq a2 a3 a4
          obtain ⟨c1, c2, c3, c4⟩ := m_copy_ok hq k2 k3
          try simp only at hr ⊢
          split at hr
          · rename_i hw
            try rw [if_pos hw]
            exact IH _ X X' _ _ _ _ _ _ _ hr a1 b1 b2 b3 (m_okl_mono (Nat.le_of_eq c1) k1) c3 c4
          · cases hr
      · split at hr
        · split at hr
          · rename_i hw
            try rw [if_pos hw]
            exact IH _ X X' _ _ _ _ _ _ _ hr a1 (n9_tl a2) a3 a4 k1 (m_oks_tl k2) k3
          · cases hr
        · cases hr
      · split at hr
        · cases hr
        · rename_i st' hq
          try simp only at hr ⊢
          split at hr
          · rename_i hw
            try rw [if_pos hw]
            exact IH _ X X' _ _ _ _ _ _ _ hr a1 (n9_math hq a2) a3 a4 k1 (m_math_ok hq k2) k3
          · cases hr
      · cases hr
