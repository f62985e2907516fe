/-! ===== heap steps all together; what stays alive; jumps; returns ===== -/
def wf_heap (own : String) (ini : Bool) (ins : Instr) (info : List Nat) : Bool := match ins with
  | .getfield idx => wf_fld own ini idx false info
  | .putfield idx => wf_fld own ini idx true info
  | .ldc idx => wf_ldc own idx info
  | .ldc_w idx => wf_ldc own idx info && decide (info.getD 0 1 = 0)
  | .getstatic idx => wf_gst own idx info
  | .multianewarray idx d => wf_mna own idx info && decide (d = 2)
  | .new idx => wf_new own idx info
  | _ => true
section MSJ
variable {p : Program} {l : Launch} {e : Env} {R : Room} {s : State} {m : MethodId} {args : Array Value} {below : List Frame} {meth : Method} {c : Code} {H : Heap} {locs : List Loc} {cells slots : Nat} {Q : State → Prop}
variable {cc : ByteArray} {pc : Nat} {ls : Array Slot} {rest : List Value} {G : MG} {E : MEnv} {h : MH} {own : String}
set_option maxHeartbeats 2000000 in
theorem m_sim_heap (hexec : p.tables.exec = Jvm.exec) (hb : c.code = cc) (hown : s.vm.findClass own = some m.cls) (hts : ∀ w ∈ m_tb, w.before args s = true) (hE : m_Env G E s s.heap) (hP : m_HP G h H) (hS : va_S (g_A G) s.heap H locs)
    {ins : Instr} {info : List Nat} {st st' : List Value} {h' : MH} {ini : Bool} (hini : ini = true → meth.name = "<init>") (hwf : wf_heap own ini ins info = true) (hp : m_heap E ins info st h = some (st', h')) (hok : ∀ v ∈ st, m_okv h v) (hd : decode cc pc = .ok (ins, m_len ins)) (hcells : cells + (h'.1 - h.1) ≤ R.cells) (hslots : slots + (h'.2.1 - h.2.1) ≤ R.slots)
    (kk : ∀ (H' : Heap) (locs' : List Loc), m_HP G h' H' → va_S (g_A G) s.heap H' locs' → W p l e R s m args below meth c H' locs' (cells + (h'.1 - h.1)) (slots + (h'.2.1 - h.2.1)) Q (F0 m (pc + m_len ins) ls (st'.map (m_cv (g_ad G) (g_fv G))))) : W p l e R s m args below meth c H locs cells slots Q (F0 m pc ls (st.map (m_cv (g_ad G) (g_fv G)))) := by
  have rd : ∀ {L : Nat}, (∀ (H' : Heap) (locs' : List Loc), m_HP G h' H' → va_S (g_A G) s.heap H' locs' → W p l e R s m args below meth c H' locs' (cells + (h'.1 - h.1)) (slots + (h'.2.1 - h.2.1)) Q (F0 m L ls (st'.map (m_cv (g_ad G) (g_fv G))))) → h' = h → W p l e R s m args below meth c H locs cells slots Q (F0 m L ls (st'.map (m_cv (g_ad G) (g_fv G)))) := by
    intro L k e
    subst e
    have := k H locs hP hS
    simpa using this
  have wr : ∀ {L : Nat}, h'.1 = h.1 → h'.2.1 = h.2.1 → (∀ (H' : Heap) (locs' : List Loc), m_HP G h' H' → va_S (g_A G) s.heap H' locs' → W p l e R s m args below meth c H' locs' (cells + (h'.1 - h.1)) (slots + (h'.2.1 - h.2.1)) Q (F0 m L ls (st'.map (m_cv (g_ad G) (g_fv G))))) → ∀ (H' : Heap) (locs' : List Loc), m_HP G h' H' → va_S (g_A G) s.heap H' locs' → W p l e R s m args below meth c H' locs' cells slots Q (F0 m L ls (st'.map (m_cv (g_ad G) (g_fv G)))) := by
    intro L e1 e2 k H' locs' a b
    have := k H' locs' a b
    rw [e1, e2] at this
    simpa using this
  cases ins with
  | getfield idx => exact m_sim_get hexec hb hown hts hE hP hS hwf hp hok hd (rd kk)
  | putfield idx =>
    have e12 : h'.1 = h.1 ∧ h'.2.1 = h.2.1 := by
      simp only [m_heap] at hp
      unfold h_put at hp
      split at hp
      · split at hp
        · cases hp; exact ⟨rfl, rfl⟩
        · cases hp
      · split at hp
        · cases hp; exact ⟨rfl, rfl⟩
        · cases hp
      · cases hp
    exact m_sim_put hexec hb hown hts hE hP hS hini hwf hp hok hd (wr e12.1 e12.2 kk)
  | iaload => exact m_sim_iald hexec hb hE hP hS hp hok hd (rd kk)
  | baload => exact m_sim_bald hexec hb hE hP hS hp hok hd (rd kk)
  | laload => exact m_sim_lald hexec hb hE hP hS hp hok hd (rd kk)
  | aaload => exact m_sim_aald hexec hb hE hP hS hp hok hd (rd kk)
  | arraylength => exact m_sim_alen hexec hb hE hP hS hp hok hd (rd kk)
  | iastore =>
    have e12 : h'.1 = h.1 ∧ h'.2.1 = h.2.1 := by
      simp only [m_heap] at hp
      unfold h_iast at hp
      split at hp
      · split at hp
        · split at hp
          · cases hp
          · cases hp; exact ⟨rfl, rfl⟩
        · cases hp
      · cases hp
    exact m_sim_iast hexec hb hE hP hS hp hok hd (wr e12.1 e12.2 kk)
  | bastore =>
    have e12 : h'.1 = h.1 ∧ h'.2.1 = h.2.1 := by
      simp only [m_heap] at hp
      unfold h_bast at hp
      split at hp
      · split at hp
        · split at hp
          · cases hp
          · cases hp; exact ⟨rfl, rfl⟩
        · cases hp
      · cases hp
    exact m_sim_bast hexec hb hE hP hS hp hok hd (wr e12.1 e12.2 kk)
  | lastore =>
    have e12 : h'.1 = h.1 ∧ h'.2.1 = h.2.1 := by
      simp only [m_heap] at hp
      unfold h_last at hp
      split at hp
      · split at hp
        · split at hp
          · cases hp
          · cases hp; exact ⟨rfl, rfl⟩
        · cases hp
      · cases hp
    exact m_sim_last hexec hb hE hP hS hp hok hd (wr e12.1 e12.2 kk)
  | ldc idx => exact m_sim_ldc hexec hb hE hP hS hown hts hwf hp hd (rd kk)
  | ldc_w idx =>
    simp only [wf_heap, Bool.and_eq_true, decide_eq_true_eq] at hwf
    exact m_sim_ldcw hexec hb hE hP hS hown hts hwf hp hd (rd kk)
  | getstatic idx => exact m_sim_gst hexec hb hE hP hS hown hts hwf hp hd (rd kk)
  | newarray t => exact m_sim_newa hexec hb hown hts hE hP hS hp hd hcells hslots kk
  | multianewarray idx d =>
    simp only [wf_heap, Bool.and_eq_true, decide_eq_true_eq] at hwf
    obtain ⟨hwf, rfl⟩ := hwf
    exact m_sim_mna hexec hb hown hts hE hP hS hwf hp hd hcells hslots kk
  | new idx => exact m_sim_new hexec hb hown hts hE hP hS hwf hp hd hcells hslots kk
  | _ => first | (simp [m_heap] at hp; done) | cases hp
/-! what stays alive -/
theorem m_live_mono {h h' : MH} {x : Nat} (hz : h.1 ≤ h'.1) (k : m_live h x) : m_live h' x := by
  rcases k with ⟨a, b⟩ | a
  · exact Or.inl ⟨by omega, b⟩
  · exact Or.inr a
theorem m_okv_mono {h h' : MH} {v : Value} (hz : h.1 ≤ h'.1) (k : m_okv h v) : m_okv h' v := by
  cases v <;> first | exact m_live_mono hz k | exact k | trivial
def m_okl (h : MH) (loc : MLoc) : Prop := ∀ v, some v ∈ loc → m_okv h v
theorem m_okl_mono {h h' : MH} {loc : MLoc} (hz : h.1 ≤ h'.1) (k : m_okl h loc) : m_okl h' loc := fun v hv => m_okv_mono hz (k v hv)
theorem m_okv_rf {h : MH} (hR : m_HR h) (c j : Nat) : m_okv h (va_rf (h.2.2.1 c j)) := by
  cases hx : h.2.2.1 c j with
  | none => trivial
  | some d => exact hR c j d hx
theorem m_clr_ok {h : MH} {a : Option Value} {v : Value} (hv : some v = m_clr a) (k : ∀ w, a = some w → m_okv h w) : m_okv h v := k v (m_clr_some hv.symm).1
theorem m_st1_ok {h : MH} : ∀ (loc : MLoc) (i : Nat) (w : Value), m_okl h loc → m_okv h w → m_okl h (m_st1 loc i w)
  | [], i, w, k, kw => by intro v hv; simp [m_st1] at hv
  | a :: l, 0, w, k, kw => by
    intro v hv
    simp only [m_st1, List.mem_cons] at hv
    rcases hv with hv | hv
    · cases hv; exact kw
    · exact k v (List.mem_cons_of_mem _ hv)
  | [a], 1, w, k, kw => by intro v hv; simp [m_st1] at hv
  | a :: b :: l, 1, w, k, kw => by
    intro v hv
    simp only [m_st1, List.mem_cons] at hv
    rcases hv with hv | hv | hv
    · exact m_clr_ok hv (fun w hw => k w (by rw [hw]; exact List.mem_cons_self))
    · cases hv; exact kw
    · exact k v (List.mem_cons_of_mem _ (List.mem_cons_of_mem _ hv))
  | a :: l, i + 2, w, k, kw => by
    intro v hv
    simp only [m_st1, List.mem_cons] at hv
    rcases hv with hv | hv
    · exact k v (by rw [hv]; exact List.mem_cons_self)
    · exact m_st1_ok l (i + 1) w (fun u hu => k u (List.mem_cons_of_mem _ hu)) kw v hv
theorem m_st2_ok {h : MH} : ∀ (loc : MLoc) (i : Nat) (w : Value), m_okl h loc → m_okv h w → m_okl h (m_st2 loc i w)
  | [], i, w, k, kw => by intro v hv; simp [m_st2] at hv
  | [a], i, w, k, kw => by intro v hv; simp [m_st2] at hv
  | a :: b :: l, 0, w, k, kw => by
    intro v hv
    simp only [m_st2, List.mem_cons] at hv
    rcases hv with hv | hv | hv
    · cases hv; exact kw
    · cases hv
    · exact k v (List.mem_cons_of_mem _ (List.mem_cons_of_mem _ hv))
  | [a, b], 1, w, k, kw => by intro v hv; simp [m_st2] at hv
  | a :: b :: d :: l, 1, w, k, kw => by
    intro v hv
    simp only [m_st2, List.mem_cons] at hv
    rcases hv with hv | hv | hv | hv
    · exact m_clr_ok hv (fun w hw => k w (by rw [hw]; exact List.mem_cons_self))
    · cases hv; exact kw
    · cases hv
    · exact k v (List.mem_cons_of_mem _ (List.mem_cons_of_mem _ (List.mem_cons_of_mem _ hv)))
  | a :: b :: l, i + 2, w, k, kw => by
    intro v hv
    simp only [m_st2, List.mem_cons] at hv
    rcases hv with hv | hv
    · exact k v (by rw [hv]; exact List.mem_cons_self)
    · exact m_st2_ok (b :: l) (i + 1) w (fun u hu => k u (List.mem_cons_of_mem _ hu)) kw v hv
theorem m_oks_cons {h : MH} {v : Value} {st : List Value} (kv : m_okv h v) (k : ∀ w ∈ st, m_okv h w) : ∀ w ∈ v :: st, m_okv h w := fun w hw => by
  rcases List.mem_cons.mp hw with rfl | hw
  · exact kv
  · exact k w hw
theorem m_oks_tl {h : MH} {v : Value} {st : List Value} (k : ∀ w ∈ v :: st, m_okv h w) : ∀ w ∈ st, m_okv h w := fun w hw => k w (List.mem_cons_of_mem _ hw)
set_option maxHeartbeats 2000000 in
theorem m_pure_ok {h : MH} {ins : Instr} {loc loc' : MLoc} {st st' : List Value} (hp : m_pure ins loc st = some (loc', st')) (k1 : m_okl h loc) (k2 : ∀ v ∈ st, m_okv h v) : m_okl h loc' ∧ ∀ v ∈ st', m_okv h v := by
  cases ins <;> simp only [m_pure, q_i2, q_i2d, q_i1, q_l2, q_l2d, q_lcmp, q_lshl, q_i2l, q_ild, q_lld, q_ald, q_ist, q_ast, q_lst, q_inc, q_dup, q_dup2, q_pop] at hp <;>
    first
    | (cases hp; done)
    | (cases hp; exact ⟨k1, m_oks_cons trivial k2⟩)
    | (split at hp
       · first
         | (cases hp; exact ⟨k1, m_oks_cons trivial (m_oks_tl (m_oks_tl k2))⟩)
         | (cases hp; exact ⟨k1, m_oks_cons trivial (m_oks_tl k2)⟩)
         | (cases hp; exact ⟨k1, m_oks_cons trivial k2⟩)
         | (rename_i x hx; cases hp; exact ⟨k1, m_oks_cons (k1 _ (List.mem_of_getElem? hx)) k2⟩)
         | (cases hp; exact ⟨m_st1_ok _ _ _ k1 trivial, k2⟩)
         | (split at hp
            · first
              | (cases hp; done)
              | (cases hp; exact ⟨m_st1_ok _ _ _ k1 (k2 _ List.mem_cons_self), m_oks_tl k2⟩)
              | (cases hp; exact ⟨m_st2_ok _ _ _ k1 (k2 _ List.mem_cons_self), m_oks_tl k2⟩)
              | (cases hp; exact ⟨k1, m_oks_cons (k2 _ List.mem_cons_self) k2⟩)
              | (cases hp; exact ⟨k1, m_oks_cons (k2 _ List.mem_cons_self) (m_oks_cons (k2 _ (List.mem_cons_of_mem _ List.mem_cons_self)) k2)⟩)
              | (cases hp; exact ⟨k1, m_oks_tl k2⟩)
            · first
              | (cases hp; done)
              | (cases hp; exact ⟨k1, m_oks_cons trivial (m_oks_tl (m_oks_tl k2))⟩))
       · cases hp)
theorem m_K_big {x : Nat} (h1 : 537 ≤ x) (h2 : x < 1000000) : m_K x = (0, 0) := by
  rw [m_K, if_neg (by omega), m_K2, if_pos h2]
set_option maxHeartbeats 2000000 in
theorem m_heap_ok {h h' : MH} {ins : Instr} {info : List Nat} {st st' : List Value} (hp : m_heap E ins info st h = some (st', h')) (k2 : ∀ v ∈ st, m_okv h v) (k3 : m_HR h) : h.1 ≤ h'.1 ∧ h.2.1 ≤ h'.2.1 ∧ (∀ v ∈ st', m_okv h' v) ∧ m_HR h' := by
  cases ins <;> simp only [m_heap] at hp <;> try (cases hp; done)
  case getfield =>
    unfold h_get at hp
    split at hp
    · rename_i ci j inf x r
      split at hp
      · cases hp
        refine ⟨Nat.le_refl _, Nat.le_refl _, m_oks_cons ?_ (m_oks_tl k2), k3⟩
        split
        · trivial
        · exact m_okv_rf k3 _ _
      · split at hp
        · rename_i hc
          split at hp
          · cases hp
            exact ⟨Nat.le_refl _, Nat.le_refl _, m_oks_cons (Or.inr (Nat.le_trans (m_K_txt hc.1).1 (Nat.le_add_right _ _))) (m_oks_tl k2), k3⟩
          · split at hp
            · cases hp
              exact ⟨Nat.le_refl _, Nat.le_refl _, m_oks_cons trivial (m_oks_tl k2), k3⟩
            · cases hp
        · cases hp
    · cases hp
  case putfield =>
    unfold h_put at hp
    split at hp
    · split at hp
      · cases hp
        exact ⟨Nat.le_refl _, Nat.le_refl _, m_oks_tl (m_oks_tl k2), k3⟩
      · cases hp
    · rename_i ci j inf d x r
      split at hp
      · cases hp
        refine ⟨Nat.le_refl _, Nat.le_refl _, m_oks_tl (m_oks_tl k2), fun a b d2 hd => ?_⟩
        show m_live h d2
        by_cases ha : a = x
        · subst ha
          simp only [m_up_at] at hd
          split at hd
          · cases hd
            exact k2 (.ref d) List.mem_cons_self
          · exact k3 a b d2 hd
        · simp only [m_up_ne ha] at hd
          exact k3 a b d2 hd
      · cases hp
    · cases hp
  case iaload =>
    unfold h_iald at hp
    split at hp
    · split at hp
      · split at hp
        · cases hp
        · cases hp
          exact ⟨Nat.le_refl _, Nat.le_refl _, m_oks_cons trivial (m_oks_tl (m_oks_tl k2)), k3⟩
      · split at hp
        · split at hp
          · cases hp
          · cases hp
            exact ⟨Nat.le_refl _, Nat.le_refl _, m_oks_cons trivial (m_oks_tl (m_oks_tl k2)), k3⟩
        · cases hp
    · cases hp
  case baload =>
    unfold h_bald at hp
    split at hp
    · split at hp
      · split at hp
        · cases hp
        · cases hp
          exact ⟨Nat.le_refl _, Nat.le_refl _, m_oks_cons trivial (m_oks_tl (m_oks_tl k2)), k3⟩
      · split at hp
        · split at hp
          · cases hp
          · cases hp
            exact ⟨Nat.le_refl _, Nat.le_refl _, m_oks_cons trivial (m_oks_tl (m_oks_tl k2)), k3⟩
        · cases hp
    · cases hp
  case laload =>
    unfold h_lald at hp
    split at hp
    · split at hp
      · split at hp
        · cases hp
        · cases hp
          exact ⟨Nat.le_refl _, Nat.le_refl _, m_oks_cons trivial (m_oks_tl (m_oks_tl k2)), k3⟩
      · cases hp
    · cases hp
  case aaload =>
    unfold h_aald at hp
    split at hp
    · split at hp
      · split at hp
        · cases hp
        · cases hp
          exact ⟨Nat.le_refl _, Nat.le_refl _, m_oks_cons (m_okv_rf k3 _ _) (m_oks_tl (m_oks_tl k2)), k3⟩
      · cases hp
    · cases hp
  case iastore =>
    unfold h_iast at hp
    split at hp
    · split at hp
      · split at hp
        · cases hp
        · cases hp
          exact ⟨Nat.le_refl _, Nat.le_refl _, m_oks_tl (m_oks_tl (m_oks_tl k2)), k3⟩
      · cases hp
    · cases hp
  case bastore =>
    unfold h_bast at hp
    split at hp
    · split at hp
      · split at hp
        · cases hp
        · cases hp
          exact ⟨Nat.le_refl _, Nat.le_refl _, m_oks_tl (m_oks_tl (m_oks_tl k2)), k3⟩
      · cases hp
    · cases hp
  case lastore =>
    unfold h_last at hp
    split at hp
    · split at hp
      · split at hp
        · cases hp
        · cases hp
          exact ⟨Nat.le_refl _, Nat.le_refl _, m_oks_tl (m_oks_tl (m_oks_tl k2)), k3⟩
      · cases hp
    · cases hp
  case arraylength =>
    unfold h_alen at hp
    split at hp
    · split at hp
      · cases hp
        exact ⟨Nat.le_refl _, Nat.le_refl _, m_oks_cons trivial (m_oks_tl k2), k3⟩
      · split at hp
        · cases hp
          exact ⟨Nat.le_refl _, Nat.le_refl _, m_oks_cons trivial (m_oks_tl k2), k3⟩
        · cases hp
    · cases hp
  case ldc =>
    unfold h_ldc at hp
    split at hp
    · cases hp
      exact ⟨Nat.le_refl _, Nat.le_refl _, m_oks_cons trivial k2, k3⟩
    · split at hp
      · cases hp
        exact ⟨Nat.le_refl _, Nat.le_refl _, m_oks_cons (Or.inr (Nat.le_add_right _ _)) k2, k3⟩
      · cases hp
    · cases hp
  case ldc_w =>
    unfold h_ldc at hp
    split at hp
    · cases hp
      exact ⟨Nat.le_refl _, Nat.le_refl _, m_oks_cons trivial k2, k3⟩
    · split at hp
      · cases hp
        exact ⟨Nat.le_refl _, Nat.le_refl _, m_oks_cons (Or.inr (Nat.le_add_right _ _)) k2, k3⟩
      · cases hp
    · cases hp
  case getstatic =>
    unfold h_gst at hp
    split at hp
    · cases hp
      exact ⟨Nat.le_refl _, Nat.le_refl _, m_oks_cons trivial k2, k3⟩
    · cases hp
      exact ⟨Nat.le_refl _, Nat.le_refl _, m_oks_cons trivial k2, k3⟩
    · cases hp
  case newarray t =>
    unfold h_newa at hp
    split at hp
    · rename_i n r
      split at hp
      · rename_i hc
        cases hp
        have hz : h.1 ≤ h.1 + 1 := by omega
        refine ⟨hz, Nat.le_add_right _ _, m_oks_cons (Or.inl ⟨Nat.lt_succ_self _, hc.2.1⟩) (fun v hv => m_okv_mono (h := h) hz (m_oks_tl k2 v hv)), fun a b d hd => m_live_mono (h := h) hz (k3 a b d hd)⟩
      · cases hp
    · cases hp
  case multianewarray =>
    unfold h_mna at hp
    split at hp
    · rename_i k n r
      split at hp
      · rename_i hc
        cases hp
        have hz : h.1 ≤ h.1 + (1 + n.toNatClampNeg) := by omega
        refine ⟨hz, Nat.le_add_right _ _, m_oks_cons (Or.inl ⟨show h.1 < h.1 + (1 + n.toNatClampNeg) by omega, by omega⟩) (fun v hv => m_okv_mono (h := h) hz (m_oks_tl (m_oks_tl k2) v hv)), fun a b d hd => ?_⟩
        by_cases ha : a = h.1
        · subst ha
          simp only [m_row_at] at hd
          split at hd
          · cases hd
            refine Or.inl ⟨?_, ?_⟩
            · show h.1 + 1 + b < h.1 + (1 + n.toNatClampNeg)
              omega
            · omega
          · cases hd
        · simp only [m_row_ne ha] at hd
          exact m_live_mono (h := h) hz (k3 a b d hd)
      · cases hp
    · cases hp
  case new =>
    unfold h_new at hp
    split at hp
    · rename_i ci inf
      split at hp
      · rename_i hc
        cases hp
        have hz : h.1 ≤ h.1 + 1 := by omega
        refine ⟨hz, Nat.le_add_right _ _, m_oks_cons (Or.inl ⟨Nat.lt_succ_self _, hc.1⟩) (fun v hv => m_okv_mono (h := h) hz (k2 v hv)), fun a b d hd => ?_⟩
        by_cases ha : a = h.1
        · subst ha
          simp only [m_row_at] at hd
          cases hd
        · simp only [m_row_ne ha] at hd
          exact m_live_mono (h := h) hz (k3 a b d hd)
      · cases hp
    · cases hp
theorem m_copy_ok {h h' : MH} {st st' : List Value} (hp : m_copy st h = some (st', h')) (k2 : ∀ v ∈ st, m_okv h v) (k3 : m_HR h) : h.1 = h'.1 ∧ h.2.1 = h'.2.1 ∧ (∀ v ∈ st', m_okv h' v) ∧ m_HR h' := by
  unfold m_copy at hp
  split at hp
  · split at hp
    · cases hp
      exact ⟨rfl, rfl, m_oks_tl (m_oks_tl (m_oks_tl (m_oks_tl (m_oks_tl k2)))), k3⟩
    · cases hp
  · cases hp
end MSJ
/-! jumps -/
abbrev MCode : Type := Nat → Option MI
def j_1 (info : List Nat) (st : List Value) (f : Int32 → Nat → Nat) : Option (Nat × List Value) := match info, st with
  | t :: _, .int x :: r => some (f x t, r)
  | _, _ => none
def j_2 (info : List Nat) (st : List Value) (f : Int32 → Int32 → Nat → Nat) : Option (Nat × List Value) := match info, st with
  | t :: _, .int y :: .int x :: r => some (f x y t, r)
  | _, _ => none
def m_lsw : List (Int × Int) → List Nat → Nat → Int32 → Nat
  | (k, _) :: ps, t :: ts, d, x => if x.toInt = k then t else m_lsw ps ts d x
  | _, _, d, _ => d
def m_tsw (lo hi : Int) (ts : List Nat) (d : Nat) (x : Int32) : Nat := if x.toInt < lo ∨ hi < x.toInt then d else ts.getD (x.toInt - lo).toNat d
def m_jump (ins : Instr) (info : List Nat) (ip : Nat) (st : List Value) : Option (Nat × List Value) := match ins with
  | .goto _ => match info with
    | t :: _ => some (t, st)
    | _ => none
  | .ifCond .eq _ => j_1 info st (fun x t => if x = 0 then t else ip + 1)
  | .ifCond .ne _ => j_1 info st (fun x t => if x = 0 then ip + 1 else t)
  | .ifCond .lt _ => j_1 info st (fun x t => if x < 0 then t else ip + 1)
  | .ifCond .ge _ => j_1 info st (fun x t => if 0 ≤ x then t else ip + 1)
  | .ifCond .gt _ => j_1 info st (fun x t => if 0 < x then t else ip + 1)
  | .ifCond .le _ => j_1 info st (fun x t => if x ≤ 0 then t else ip + 1)
  | .if_icmp .eq _ => j_2 info st (fun x y t => if x = y then t else ip + 1)
  | .if_icmp .ne _ => j_2 info st (fun x y t => if x = y then ip + 1 else t)
  | .if_icmp .lt _ => j_2 info st (fun x y t => if x < y then t else ip + 1)
  | .if_icmp .ge _ => j_2 info st (fun x y t => if y ≤ x then t else ip + 1)
  | .if_icmp .gt _ => j_2 info st (fun x y t => if y < x then t else ip + 1)
  | .if_icmp .le _ => j_2 info st (fun x y t => if x ≤ y then t else ip + 1)
  | .tableswitch _ lo hi _ => match info, st with
    | d :: ts, .int x :: r => some (m_tsw lo hi ts d x, r)
    | _, _ => none
  | .lookupswitch _ ps => match info, st with
    | d :: ts, .int x :: r => some (m_lsw ps.toList ts d x, r)
    | _, _ => none
  | _ => none
def m_off (pc : Nat) (off : Int) (code : MCode) (t : Nat) : Bool := match code t with
  | some e => decide ((pc : Int) + off = (e.2.1 : Int))
  | none => false
def m_nxt (pc : Nat) (len : Nat) (code : MCode) (ip : Nat) : Bool := match code (ip + 1) with
  | some e => decide (e.2.1 = pc + len)
  | none => false
/-- a jump's targets, by their places -/
def wf_jump (cc : ByteArray) (code : MCode) (ip pc : Nat) (ins : Instr) (info : List Nat) : Bool := match ins, info with
  | .goto off, t :: _ => m_off pc off code t
  | .ifCond _ off, t :: _ => m_off pc off code t && m_nxt pc 3 code ip
  | .if_icmp _ off, t :: _ => m_off pc off code t && m_nxt pc 3 code ip
  | .tableswitch d lo hi offs, dt :: ts => m_off pc d code dt && decide (offs.toList.length = ts.length) && decide ((hi - lo).toNat + 1 = ts.length) && decide (lo ≤ hi) && (offs.toList.zip ts).all (fun q => m_off pc q.1 code q.2)
  | .lookupswitch d ps, dt :: ts => m_off pc d code dt && decide (ps.toList.length = ts.length) && (ps.toList.zip (ps.toList.drop 1)).all (fun (a, next) => a.1 < next.1) && (ps.toList.zip ts).all (fun q => m_off pc q.1.2 code q.2)
  | _, _ => false
theorem m_off_spec {pc t : Nat} {off : Int} {code : MCode} (h : m_off pc off code t = true) : ∃ e, code t = some e ∧ (pc : Int) + off = (e.2.1 : Int) := by
  unfold m_off at h
  split at h
  · rename_i e he
    exact ⟨e, he, of_decide_eq_true h⟩
  · cases h
theorem m_nxt_spec {pc len ip : Nat} {code : MCode} (h : m_nxt pc len code ip = true) : ∃ e, code (ip + 1) = some e ∧ e.2.1 = pc + len := by
  unfold m_nxt at h
  split at h
  · rename_i e he
    exact ⟨e, he, of_decide_eq_true h⟩
  · cases h
theorem m_lsw_spec {pc : Nat} {d : Int} {code : MCode} {dt : Nat} (hd : m_off pc d code dt = true) (x : Int32) : ∀ (ps : List (Int × Int)) (ts : List Nat), ps.length = ts.length → (ps.zip ts).all (fun q => m_off pc q.1.2 code q.2) = true → m_off pc (Op.lookupswitch.offset ps d x.toInt) code (m_lsw ps ts dt x) = true
  | [], [], _, _ => by
    first | exact hd | (simp [Op.lookupswitch.offset, m_lsw]; exact hd)
  | [], _ :: _, h, _ => by simp at h
  | _ :: _, [], h, _ => by simp at h
  | (k, o) :: ps, t :: ts, hl, ha => by
    simp only [List.zip_cons_cons, List.all_cons, Bool.and_eq_true] at ha
    rw [Op.lookupswitch.offset_cons]
    unfold m_lsw
    by_cases hx : x.toInt = k
    · rw [if_pos hx]
      first | rw [if_pos hx] | rw [if_pos hx.symm]
      exact ha.1
    · rw [if_neg hx]
      first | rw [if_neg hx] | rw [if_neg (fun q => hx q.symm)]
      exact m_lsw_spec hd x ps ts (by simpa using hl) ha.2
section MSK
variable {p : Program} {l : Launch} {e : Env} {R : Room} {s : State} {m : MethodId} {args : Array Value} {below : List Frame} {meth : Method} {c : Code} {H : Heap} {locs : List Loc} {cells slots : Nat} {Q : State → Prop}
variable {cc : ByteArray} {pc : Nat} {ls : Array Slot} {rest : List Value} {ad : Nat → Nat} {fv : Value}
set_option maxHeartbeats 2000000 in
theorem m_sim_jump (hexec : p.tables.exec = Jvm.exec) (hb : c.code = cc) {code : MCode} {ins : Instr} {info : List Nat} {ip ip' : Nat} {st st' : List Value} (hp : m_jump ins info ip st = some (ip', st')) (hwf : wf_jump cc code ip pc ins info = true) (hd : ∃ len, decode cc pc = .ok (ins, len) ∧ (len = m_len ins ∨ (∃ a b c d, ins = .tableswitch a b c d) ∨ ∃ a b, ins = .lookupswitch a b))
    (kk : ∀ e9 : MI, code ip' = some e9 → W p l e R s m args below meth c H locs cells slots Q (F0 m e9.2.1 ls (st'.map (m_cv ad fv)))) : W p l e R s m args below meth c H locs cells slots Q (F0 m pc ls (st.map (m_cv ad fv))) := by
  obtain ⟨len, hd, hlen⟩ := hd
  have std : (len = m_len ins ∨ (∃ a b c d, ins = .tableswitch a b c d) ∨ ∃ a b, ins = .lookupswitch a b) → (∀ a b c d, ins ≠ .tableswitch a b c d) → (∀ a b, ins ≠ .lookupswitch a b) → len = m_len ins := by
    intro h h1 h2
    rcases h with h | ⟨a, b, c, d, h⟩ | ⟨a, b, h⟩
    · exact h
    · exact absurd h (h1 a b c d)
    · exact absurd h (h2 a b)
  cases ins with
  | goto off =>
    have e0 := std hlen (by intros; exact fun z => by cases z) (by intros; exact fun z => by cases z)
    subst e0
    simp only [m_jump] at hp
    split at hp
    · rename_i t inf
      obtain ⟨rfl, rfl⟩ : t = ip' ∧ st = st' := by simpa using hp
      obtain ⟨e9, h1, h2⟩ := m_off_spec (by simpa [wf_jump] using hwf)
      exact lv_goto hexec hb hd h2 (kk e9 h1)
    · cases hp
  | ifCond cnd off =>
    have e0 := std hlen (by intros; exact fun z => by cases z) (by intros; exact fun z => by cases z)
    subst e0
    cases cnd with
    | eq =>
      simp only [m_jump, j_1] at hp
      split at hp
      · rename_i t inf x r
        obtain ⟨rfl, rfl⟩ : _ = ip' ∧ r = st' := by simpa using hp
        simp only [wf_jump, Bool.and_eq_true] at hwf
        obtain ⟨e9, h1, h2⟩ := m_off_spec hwf.1
        obtain ⟨e8, h3, h4⟩ := m_nxt_spec hwf.2
        refine lv_if_eq hexec hb hd h2 (fun hc => kk e9 (by rw [if_pos hc]; exact h1)) (fun hc => ?_)
        have := kk e8 (by rw [if_neg hc]; exact h3)
        rw [h4] at this
        exact this
      · cases hp
    | ne =>
      simp only [m_jump, j_1] at hp
      split at hp
      · rename_i t inf x r
        obtain ⟨rfl, rfl⟩ : _ = ip' ∧ r = st' := by simpa using hp
        simp only [wf_jump, Bool.and_eq_true] at hwf
        obtain ⟨e9, h1, h2⟩ := m_off_spec hwf.1
        obtain ⟨e8, h3, h4⟩ := m_nxt_spec hwf.2
        refine lv_if_ne hexec hb hd h2 (fun hc => kk e9 (by rw [if_neg hc]; exact h1)) (fun hc => ?_)
        have := kk e8 (by rw [if_pos hc]; exact h3)
        rw [h4] at this
        exact this
      · cases hp
    | lt =>
      simp only [m_jump, j_1] at hp
      split at hp
      · rename_i t inf x r
        obtain ⟨rfl, rfl⟩ : _ = ip' ∧ r = st' := by simpa using hp
        simp only [wf_jump, Bool.and_eq_true] at hwf
        obtain ⟨e9, h1, h2⟩ := m_off_spec hwf.1
        obtain ⟨e8, h3, h4⟩ := m_nxt_spec hwf.2
        refine lv_if_lt hexec hb hd h2 (fun hc => kk e9 (by rw [if_pos hc]; exact h1)) (fun hc => ?_)
        have := kk e8 (by rw [if_neg hc]; exact h3)
        rw [h4] at this
        exact this
      · cases hp
    | ge =>
      simp only [m_jump, j_1] at hp
      split at hp
      · rename_i t inf x r
        obtain ⟨rfl, rfl⟩ : _ = ip' ∧ r = st' := by simpa using hp
        simp only [wf_jump, Bool.and_eq_true] at hwf
        obtain ⟨e9, h1, h2⟩ := m_off_spec hwf.1
        obtain ⟨e8, h3, h4⟩ := m_nxt_spec hwf.2
        refine lv_if_ge hexec hb hd h2 (fun hc => kk e9 (by rw [if_pos hc]; exact h1)) (fun hc => ?_)
        have := kk e8 (by rw [if_neg hc]; exact h3)
        rw [h4] at this
        exact this
      · cases hp
    | gt =>
      simp only [m_jump, j_1] at hp
      split at hp
      · rename_i t inf x r
        obtain ⟨rfl, rfl⟩ : _ = ip' ∧ r = st' := by simpa using hp
        simp only [wf_jump, Bool.and_eq_true] at hwf
        obtain ⟨e9, h1, h2⟩ := m_off_spec hwf.1
        obtain ⟨e8, h3, h4⟩ := m_nxt_spec hwf.2
        refine lv_if_gt hexec hb hd h2 (fun hc => kk e9 (by rw [if_pos hc]; exact h1)) (fun hc => ?_)
        have := kk e8 (by rw [if_neg hc]; exact h3)
        rw [h4] at this
        exact this
      · cases hp
    | le =>
      simp only [m_jump, j_1] at hp
      split at hp
      · rename_i t inf x r
        obtain ⟨rfl, rfl⟩ : _ = ip' ∧ r = st' := by simpa using hp
        simp only [wf_jump, Bool.and_eq_true] at hwf
        obtain ⟨e9, h1, h2⟩ := m_off_spec hwf.1
        obtain ⟨e8, h3, h4⟩ := m_nxt_spec hwf.2
        refine lv_if_le hexec hb hd h2 (fun hc => kk e9 (by rw [if_pos hc]; exact h1)) (fun hc => ?_)
        have := kk e8 (by rw [if_neg hc]; exact h3)
        rw [h4] at this
        exact this
      · cases hp
  | if_icmp cnd off =>
    have e0 := std hlen (by intros; exact fun z => by cases z) (by intros; exact fun z => by cases z)
    subst e0
    cases cnd with
    | eq =>
      simp only [m_jump, j_2] at hp
      split at hp
      · rename_i t inf y x r
        obtain ⟨rfl, rfl⟩ : _ = ip' ∧ r = st' := by simpa using hp
        simp only [wf_jump, Bool.and_eq_true] at hwf
        obtain ⟨e9, h1, h2⟩ := m_off_spec hwf.1
        obtain ⟨e8, h3, h4⟩ := m_nxt_spec hwf.2
        refine lv_icmp_eq hexec hb hd h2 (fun hc => kk e9 (by rw [if_pos hc]; exact h1)) (fun hc => ?_)
        have := kk e8 (by rw [if_neg hc]; exact h3)
        rw [h4] at this
        exact this
      · cases hp
    | ne =>
      simp only [m_jump, j_2] at hp
      split at hp
      · rename_i t inf y x r
        obtain ⟨rfl, rfl⟩ : _ = ip' ∧ r = st' := by simpa using hp
        simp only [wf_jump, Bool.and_eq_true] at hwf
        obtain ⟨e9, h1, h2⟩ := m_off_spec hwf.1
        obtain ⟨e8, h3, h4⟩ := m_nxt_spec hwf.2
        refine lv_icmp_ne hexec hb hd h2 (fun hc => kk e9 (by rw [if_neg hc]; exact h1)) (fun hc => ?_)
        have := kk e8 (by rw [if_pos hc]; exact h3)
        rw [h4] at this
        exact this
      · cases hp
    | lt =>
      simp only [m_jump, j_2] at hp
      split at hp
      · rename_i t inf y x r
        obtain ⟨rfl, rfl⟩ : _ = ip' ∧ r = st' := by simpa using hp
        simp only [wf_jump, Bool.and_eq_true] at hwf
        obtain ⟨e9, h1, h2⟩ := m_off_spec hwf.1
        obtain ⟨e8, h3, h4⟩ := m_nxt_spec hwf.2
        refine lv_icmp_lt hexec hb hd h2 (fun hc => kk e9 (by rw [if_pos hc]; exact h1)) (fun hc => ?_)
        have := kk e8 (by rw [if_neg hc]; exact h3)
        rw [h4] at this
        exact this
      · cases hp
    | ge =>
      simp only [m_jump, j_2] at hp
      split at hp
      · rename_i t inf y x r
        obtain ⟨rfl, rfl⟩ : _ = ip' ∧ r = st' := by simpa using hp
        simp only [wf_jump, Bool.and_eq_true] at hwf
        obtain ⟨e9, h1, h2⟩ := m_off_spec hwf.1
        obtain ⟨e8, h3, h4⟩ := m_nxt_spec hwf.2
        refine lv_icmp_ge hexec hb hd h2 (fun hc => kk e9 (by rw [if_pos hc]; exact h1)) (fun hc => ?_)
        have := kk e8 (by rw [if_neg hc]; exact h3)
        rw [h4] at this
        exact this
      · cases hp
    | gt =>
      simp only [m_jump, j_2] at hp
      split at hp
      · rename_i t inf y x r
        obtain ⟨rfl, rfl⟩ : _ = ip' ∧ r = st' := by simpa using hp
        simp only [wf_jump, Bool.and_eq_true] at hwf
        obtain ⟨e9, h1, h2⟩ := m_off_spec hwf.1
        obtain ⟨e8, h3, h4⟩ := m_nxt_spec hwf.2
        refine lv_icmp_gt hexec hb hd h2 (fun hc => kk e9 (by rw [if_pos hc]; exact h1)) (fun hc => ?_)
        have := kk e8 (by rw [if_neg hc]; exact h3)
        rw [h4] at this
        exact this
      · cases hp
    | le =>
      simp only [m_jump, j_2] at hp
      split at hp
      · rename_i t inf y x r
        obtain ⟨rfl, rfl⟩ : _ = ip' ∧ r = st' := by simpa using hp
        simp only [wf_jump, Bool.and_eq_true] at hwf
        obtain ⟨e9, h1, h2⟩ := m_off_spec hwf.1
        obtain ⟨e8, h3, h4⟩ := m_nxt_spec hwf.2
        refine lv_icmp_le hexec hb hd h2 (fun hc => kk e9 (by rw [if_pos hc]; exact h1)) (fun hc => ?_)
        have := kk e8 (by rw [if_neg hc]; exact h3)
        rw [h4] at this
        exact this
      · cases hp
  | tableswitch d lo hi offs =>
    simp only [m_jump] at hp
    split at hp
    · rename_i dt ts x r
      obtain ⟨rfl, rfl⟩ : _ = ip' ∧ r = st' := by simpa using hp
      simp only [wf_jump, Bool.and_eq_true, decide_eq_true_eq] at hwf
      obtain ⟨⟨⟨⟨w1, w2⟩, w3⟩, w4⟩, w5⟩ := hwf
      by_cases hx : x.toInt < lo ∨ hi < x.toInt
      · obtain ⟨e9, h1, h2⟩ := m_off_spec w1
        exact lv_tableOut hexec hb hd hx h2 (kk e9 (by unfold m_tsw; rw [if_pos hx]; exact h1))
      · have i1 : (x.toInt - lo).toNat < ts.length := by omega
        have i2 : (x.toInt - lo).toNat < offs.toList.length := by omega
        have hz : (offs.toList.zip ts)[(x.toInt - lo).toNat]? = some (offs.toList[(x.toInt - lo).toNat], ts[(x.toInt - lo).toNat]) := by
          rw [List.getElem?_eq_getElem (by rw [List.length_zip]; omega)]
          simp
        have hm := List.all_eq_true.mp w5 _ (List.mem_of_getElem? hz)
        obtain ⟨e9, h1, h2⟩ := m_off_spec hm
        have g1 : offs[(x.toInt - lo).toNat]? = some (offs.toList[(x.toInt - lo).toNat]) := by
          rw [← Array.getElem?_toList, List.getElem?_eq_getElem i2]
        have g2 : code (m_tsw lo hi ts dt x) = some e9 := by
          unfold m_tsw
          rw [if_neg hx, List.getD_eq_getElem?_getD, List.getElem?_eq_getElem i1]
          exact h1
        exact lv_tableIn hexec hb hd (fun q => hx (Or.inl q)) (fun q => hx (Or.inr q)) g1 h2 (kk e9 g2)
    · cases hp
  | lookupswitch d ps =>
    simp only [m_jump] at hp
    split at hp
    · rename_i dt ts x r
      obtain ⟨rfl, rfl⟩ : _ = ip' ∧ r = st' := by simpa using hp
      simp only [wf_jump, Bool.and_eq_true, decide_eq_true_eq] at hwf
      obtain ⟨⟨⟨w1, w2⟩, w3⟩, w4⟩ := hwf
      obtain ⟨e9, h1, h2⟩ := m_off_spec (m_lsw_spec w1 x ps.toList ts w2 w4)
      exact lv_lookup hexec hb hd w3 rfl h2 (kk e9 h1)
    · cases hp
  | _ => first | (simp [m_jump] at hp; done) | cases hp
end MSK
