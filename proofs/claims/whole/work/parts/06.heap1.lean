/-! ===== heap steps of the mini machine are steps of the machine ===== -/
/-- what an instruction that links must find in the tables -/
def wf_fld (own : String) (init : Bool) (idx : Nat) (put : Bool) (info : List Nat) : Bool := match info with
  | ci :: j :: w :: nest :: _ => match m_cl[ci]? with
    | some (C, T, N) => decide (j < N) && decide ((T j).1 = C) && (if nest = 0 then decide (lw_tbl[w]? = some (.fieldLink own idx C (T j).2.1 (T j).2.2.1)) else decide (lw_tbl[w]? = some (.fieldLinkNest own idx C (T j).2.1 (T j).2.2.1 "FeltHarness"))) && (!put || (if (T j).2.2.2 = true then decide (own = C) && init && decide (nest = 0) else true))
    | none => decide (ci = 12) && !put && (if j = 0 then decide (lw_tbl[w]? = some (.fieldLink own idx "java/lang/String" "value" "[B")) else if j = 1 then decide (lw_tbl[w]? = some (.fieldLink own idx "java/lang/String" "coder" "B")) else false)
  | _ => false
theorem m_K_txt {x : Nat} (hc1 : m_K x = (22, 2)) : 1000000 ≤ x ∧ x < 1000006 := by
  have hn : ¬ x < 537 := by
    intro q
    have hlt : ∀ y : Fin 537, (m_K1 y.val).1 ≠ 22 := by decide +kernel
    rw [m_K, if_pos q] at hc1
    exact hlt ⟨x, q⟩ (by rw [hc1])
  rw [m_K, if_neg hn] at hc1
  unfold m_K2 at hc1
  split at hc1
  · cases hc1
  · split at hc1
    · omega
    · split at hc1
      · cases hc1
      · split at hc1
        · cases hc1
        · split at hc1 <;> cases hc1
theorem m_txt (G : MG) {x : Nat} (hc1 : m_K x = (22, 2)) : 1000000 ≤ x ∧ x - 1000000 < 6 ∧ g_ad G x = G.2.2.2.2.1 (x - 1000000) ∧ g_ad G (x + 100) = G.2.2.2.2.2.1 (x - 1000000) := by
  obtain ⟨h1, h2⟩ := m_K_txt hc1
  refine ⟨h1, by omega, ?_, ?_⟩
  · rw [g_ad, if_neg (by omega), if_pos (by omega)]
  · rw [g_ad, if_neg (by omega), if_neg (by omega), if_pos (by omega), show x + 100 - 1000100 = x - 1000000 by omega]
theorem m_nf12 : m_nf 12 = 0 := rfl
section MSH
variable {p : Program} {l : Launch} {e : Env} {R : Room} {s : State} {m : MethodId} {args : Array Value} {below : List Frame} {meth : Method} {c : Code} {H : Heap} {locs : List Loc} {cells slots : Nat} {Q : State → Prop}
variable {cc : ByteArray} {pc : Nat} {ls : Array Slot} {rest : List Value} {G : MG} {E : MEnv} {h : MH} {own : String}
theorem m_tbw (hts : ∀ w ∈ m_tb, w.before args s = true) {i : Nat} {w : Cond} (h : lw_tbl[i]? = some w) (hg : goodWord w = true) : w.before args s = true := hts w (m_tb_mem h hg)
theorem m_obj {x ci N : Nat} {C : String} {T : u_T} (hP : m_HP G h H) (hl : m_live h x) (hc : m_cl[ci]? = some (C, T, N)) (hK : m_K x = (10 + ci, N)) (h12 : ci < 12) : t_OB (g_ad G x) (G.2.1 ci) N (G.2.2.1 ci) H (m_fv G h ci x) := by
  have hx : x < 1000000 := m_K_lt hK (by omega) (by omega) (by omega) (by omega)
  exact (hP.2 x (m_live_own hl hx) hx).2.2.2.2 ci C T N hc hK
theorem m_cl_lt {ci : Nat} {q : vw_C} (h : m_cl[ci]? = some q) : ci < 12 := (List.getElem?_eq_some_iff.mp h).1
theorem m_cv_fv (ci x j : Nat) : m_cv (g_ad G) (g_fv G) (if m_fi ci j = true then Value.int (h.2.2.2.1 x j) else va_rf (h.2.2.1 x j)) = m_fv G h ci x j := by
  unfold m_fv
  split
  · rfl
  · exact m_cv_rf G _
set_option maxHeartbeats 2000000 in
theorem m_sim_get (hexec : p.tables.exec = Jvm.exec) (hb : c.code = cc) (hown : s.vm.findClass own = some m.cls) (hts : ∀ w ∈ m_tb, w.before args s = true) (hE : m_Env G E s s.heap) (hP : m_HP G h H) (hS : va_S (g_A G) s.heap H locs)
    {idx : Nat} {info : List Nat} {st st' : List Value} {h' : MH} {ini : Bool} (hwf : wf_fld own ini idx false info = true) (hp : h_get info st h = some (st', h')) (hok : ∀ v ∈ st, m_okv h v) (hd : decode cc pc = .ok (.getfield idx, 3))
    (kk : h' = h → W p l e R s m args below meth c H locs cells slots Q (F0 m (pc + 3) ls (st'.map (m_cv (g_ad G) (g_fv G))))) : W p l e R s m args below meth c H locs cells slots Q (F0 m pc ls (st.map (m_cv (g_ad G) (g_fv G)))) := by
  match info, st, hp, hok, hwf with
  | ci :: j :: inf, .ref x :: r, hp, hok, hwf =>
    have hlx : m_live h x := hok _ List.mem_cons_self
    simp only [h_get] at hp
    split at hp
    · rename_i hc
      obtain ⟨rfl, rfl⟩ : _ = st' ∧ h = h' := by simpa using hp
      match inf, hwf with
      | w :: nest :: inf2, hwf =>
        simp only [wf_fld] at hwf
        cases hcl : m_cl[ci]? with
        | none =>
          rw [hcl] at hwf
          simp only [Bool.and_eq_true, decide_eq_true_eq] at hwf
          have := hwf.1.1
          subst this
          exact absurd hc.2 (by rw [m_nf12]; exact Nat.not_lt_zero _)
        | some q =>
          obtain ⟨C, T, N⟩ := q
          rw [hcl] at hwf
          have h12 := m_cl_lt hcl
          obtain ⟨k1, k2, k3, k4, k5, k6⟩ := m_ck hcl
          simp only [Bool.and_eq_true, decide_eq_true_eq] at hwf
          obtain ⟨⟨⟨hj, hT⟩, hw⟩, -⟩ := hwf
          have hK : m_K x = (10 + ci, N) := by rw [hc.1, k4]
          obtain ⟨cell, q1, q2, q3, q4⟩ := m_obj hP hlx hcl hK h12
          obtain ⟨hS0, hfc, kC, hkC, hkind⟩ := hE.1 ci _ hcl
          obtain ⟨cf, kf, fi, f, hi, hsl⟩ := hS0 j hj
          have hst := (u_facts hfc hkC (u_lays hts k1 hj) hi).1
          have hvv : cell.slots[f.slot]? = some (m_cv (g_ad G) (g_fv G) (if m_fi ci j = true then Value.int (h.2.2.2.1 x j) else va_rf (h.2.2.1 x j))) := by
            rw [hsl, q4 j hj, m_cv_fv]
          have hk2 := kk rfl
          rw [List.map_cons] at hk2
          have hi2 : s.fieldFound? C (T j).2.1 (T j).2.2.1 = some (cf, kf, fi, f) := by rw [← hT]; exact hi
          split at hw
          · have hw := of_decide_eq_true hw
            exact W.getf hexec hb hown (m_tbw hts hw rfl) hi2 hst q1 (by rw [q3]; exact fun z => by cases z) hvv rfl rfl hd hk2
          · have hw := of_decide_eq_true hw
            exact va_Wgetf hexec hb hown (va_Nw.use rfl (hE.2.2.1 _ (m_nest_mem hw rfl))) hi2 hst q1 (by rw [q3]; exact fun z => by cases z) hvv rfl rfl hd hk2
      | [], hwf => simp [wf_fld] at hwf
      | [_], hwf => simp [wf_fld] at hwf
    · split at hp
      · rename_i hc
        obtain ⟨hc1, rfl⟩ := hc
        -- a text
        obtain ⟨hx2, hx3, had, had2⟩ := m_txt G hc1
        obtain ⟨s1, s2, s3, s4⟩ := hE.2.2.2.1.2.1 (x - 1000000) hx3
        match inf, hwf with
        | w :: nest :: inf2, hwf =>
          simp only [wf_fld] at hwf
          simp only [show m_cl[12]? = none from rfl, Bool.and_eq_true] at hwf
          obtain ⟨-, hw⟩ := hwf
          split at hp
          · rename_i hj
            subst hj
            obtain ⟨rfl, rfl⟩ : _ = st' ∧ h = h' := by simpa using hp
            have hw := of_decide_eq_true hw
            show W p l e R s m args below meth c H locs cells slots Q (F0 m pc ls (.ref (g_ad G x) :: r.map (m_cv (g_ad G) (g_fv G))))
            rw [had]
            refine vk_getf hexec hb s3 hS hown (m_tbw hts hw rfl) (fun _ z => z) hd ?_
            have hk2 := kk rfl
            rw [List.map_cons] at hk2
            have e9 : m_cv (g_ad G) (g_fv G) (.ref (x + 100)) = .ref (G.2.2.2.2.2.1 (x - 1000000)) := by
              show Value.ref (g_ad G (x + 100)) = _
              rw [had2]
            rw [e9] at hk2
            exact hk2
          · rename_i hj
            rw [if_neg hj] at hw
            split at hp
            · rename_i hj
              subst hj
              obtain ⟨rfl, rfl⟩ : _ = st' ∧ h = h' := by simpa using hp
              have hw := of_decide_eq_true hw
              show W p l e R s m args below meth c H locs cells slots Q (F0 m pc ls (.ref (g_ad G x) :: r.map (m_cv (g_ad G) (g_fv G))))
              rw [had]
              exact vk_getf hexec hb s2 hS hown (m_tbw hts hw rfl) (fun _ z => z) hd (kk rfl)
            · cases hp
        | [], hwf => simp [wf_fld] at hwf
        | [_], hwf => simp [wf_fld] at hwf
      · cases hp
  | [], st, hp, _, _ => simp [h_get] at hp
  | [_], st, hp, _, _ => simp [h_get] at hp
  | _ :: _ :: _, [], hp, _, _ => simp [h_get] at hp
  | _ :: _ :: _, .int _ :: _, hp, _, _ => simp [h_get] at hp
  | _ :: _ :: _, .long _ :: _, hp, _, _ => simp [h_get] at hp
  | _ :: _ :: _, .float _ :: _, hp, _, _ => simp [h_get] at hp
  | _ :: _ :: _, .double _ :: _, hp, _, _ => simp [h_get] at hp
  | _ :: _ :: _, .null :: _, hp, _, _ => simp [h_get] at hp
  | _ :: _ :: _, .retAddr _ :: _, hp, _, _ => simp [h_get] at hp
theorem m_apart (hts : ∀ w ∈ m_tb, w.before args s = true) (hE : m_Env G E s s.heap) {ci N : Nat} {C : String} {T : u_T} (hcl : m_cl[ci]? = some (C, T, N)) : ∀ x y, x < N → y < N → x ≠ y → G.2.2.1 ci x ≠ G.2.2.1 ci y := by
  obtain ⟨k1, k2, k3, k4, k5, k6⟩ := m_ck hcl
  intro x y hx hy hne
  obtain ⟨hS, -⟩ := hE.1 ci _ hcl
  obtain ⟨_, _, _, fa, hia, ea⟩ := hS x hx
  obtain ⟨_, _, _, fb, hib, eb⟩ := hS y hy
  rw [← ea, ← eb]
  refine u_apart (u_lays hts k1 hx) (u_lays hts k1 hy) hia hib ?_
  rw [(State.fieldFound?_type hia (k2 x hx)).1, (State.fieldFound?_type hib (k2 y hy)).1]
  exact k3 x hx y hy hne
theorem m_up_ne {α : Type} {f : Nat → Nat → α} {c d j : Nat} {v : α} (h : d ≠ c) : m_up f c j v d = f d := by
  unfold m_up; rw [if_neg h]
theorem m_up_at {α : Type} {f : Nat → Nat → α} {c j k : Nat} {v : α} : m_up f c j v c k = if k = j then v else f c k := by
  unfold m_up; rw [if_pos rfl]
theorem m_row_ne {α : Type} {f : Nat → Nat → α} {c d : Nat} {r : Nat → α} (h : d ≠ c) : m_row f c r d = f d := by
  unfold m_row; rw [if_neg h]
theorem m_row_at {α : Type} {f : Nat → Nat → α} {c : Nat} {r : Nat → α} : m_row f c r c = r := by
  unfold m_row; rw [if_pos rfl]
theorem m_cell_obj {H' : Heap} {h' : MH} {x ci N : Nat} {C : String} {T : u_T} (hcl : m_cl[ci]? = some (C, T, N)) (hK : m_K x = (10 + ci, N)) (ho : t_OB (g_ad G x) (G.2.1 ci) N (G.2.2.1 ci) H' (m_fv G h' ci x)) : m_cell G h' H' x := by
  refine ⟨fun q => ?_, fun q => ?_, fun q => ?_, fun q => ?_, fun cj C' T' N' q1 q2 => ?_⟩
  · rw [hK] at q; simp at q; omega
  · rw [hK] at q; simp at q; omega
  · rw [hK] at q; simp at q; omega
  · rw [hK] at q; simp at q; omega
  · rw [hK] at q2
    have e1 : ci = cj := by
      have := (Prod.mk.inj q2).1
      omega
    subst e1
    rw [hcl] at q1
    cases q1
    exact ho
/-- a field is written: the cell behind it -/
theorem m_put_HP (hts : ∀ w ∈ m_tb, w.before args s = true) (hE : m_Env G E s s.heap) (hP : m_HP G h H) {ci N x j : Nat} {C : String} {T : u_T} (hcl : m_cl[ci]? = some (C, T, N)) (hK : m_K x = (10 + ci, N)) (hj : j < N) (hlx : m_live h x) {cell : Cell} {v : Value} {h' : MH} {H' : Heap}
    (q1 : H[g_ad G x]? = some cell) (q2 : cell.cls = G.2.1 ci) (q3 : cell.vm = .none) (q4 : ∀ k, k < N → cell.slots[G.2.2.1 ci k]? = some (m_fv G h ci x k))
    (e1 : H'[g_ad G x]? = some (cell.setSlot (G.2.2.1 ci j) v)) (e2 : H'.size = H.size) (e3 : ∀ q : Nat, q ≠ g_ad G x → H'[q]? = H[q]?)
    (hz : h'.1 = h.1) (hI : ∀ d, d ≠ x → h'.2.2.2.1 d = h.2.2.2.1 d) (hR : ∀ d, d ≠ x → h'.2.2.1 d = h.2.2.1 d) (hJ : ∀ d, h'.2.2.2.2 d = h.2.2.2.2 d) (hv : ∀ k, k < N → m_fv G h' ci x k = if k = j then v else m_fv G h ci x k) : m_HP G h' H' := by
  have h12 := m_cl_lt hcl
  have hx : x < 1000000 := m_K_lt hK (by omega) (by omega) (by omega) (by omega)
  refine m_HP_upd hP hx hz e2 e3 hI hR (fun d _ => hJ d) (fun _ => m_cell_obj hcl hK ?_)
  refine t_OB.to (V := updV (m_fv G h ci x) j v) ⟨_, e1, by rw [← q2]; rfl, by rw [← q3]; rfl, t_set q4 (fun a b ha hb hab => m_apart hts hE hcl a b ha hb hab) hj v⟩ (fun k hk => ?_)
  rw [hv k hk]
  rfl
set_option maxHeartbeats 2000000 in
theorem m_sim_put (hexec : p.tables.exec = Jvm.exec) (hb : c.code = cc) (hown : s.vm.findClass own = some m.cls) (hts : ∀ w ∈ m_tb, w.before args s = true) (hE : m_Env G E s s.heap) (hP : m_HP G h H) (hS : va_S (g_A G) s.heap H locs)
    {idx : Nat} {info : List Nat} {st st' : List Value} {h' : MH} {ini : Bool} (hini : ini = true → meth.name = "<init>") (hwf : wf_fld own ini idx true info = true) (hp : h_put info st h = some (st', h')) (hok : ∀ v ∈ st, m_okv h v) (hd : decode cc pc = .ok (.putfield idx, 3))
    (kk : ∀ (H' : Heap) (locs' : List Loc), m_HP G h' H' → va_S (g_A G) s.heap H' locs' → W p l e R s m args below meth c H' locs' cells slots Q (F0 m (pc + 3) ls (st'.map (m_cv (g_ad G) (g_fv G))))) : W p l e R s m args below meth c H locs cells slots Q (F0 m pc ls (st.map (m_cv (g_ad G) (g_fv G)))) := by
  -- both kinds of values at once
  have core : ∀ (ci j : Nat) (inf : List Nat) (v : Value) (x : Nat) (r : List Value), info = ci :: j :: inf → st = v :: .ref x :: r → m_K x = (10 + ci, m_nf ci) → j < m_nf ci → st' = r → h'.1 = h.1 →
      (∀ d, d ≠ x → h'.2.2.2.1 d = h.2.2.2.1 d) → (∀ d, d ≠ x → h'.2.2.1 d = h.2.2.1 d) → (∀ d, h'.2.2.2.2 d = h.2.2.2.2 d) → (∀ k, m_fv G h' ci x k = if k = j then m_cv (g_ad G) (g_fv G) v else m_fv G h ci x k) →
      (∀ ty, m_ty ci j = ty → narrow ty (m_cv (g_ad G) (g_fv G) v) = m_cv (g_ad G) (g_fv G) v ∧ fits ty (m_cv (g_ad G) (g_fv G) v) = true) →
      W p l e R s m args below meth c H locs cells slots Q (F0 m pc ls (st.map (m_cv (g_ad G) (g_fv G)))) := by
    intro ci j inf v x r hinf hst0 hKx hjn hst1 hz hI hR hJ hv hnf
    subst hinf; subst hst0; subst hst1
    have hlx : m_live h x := hok _ (List.mem_cons_of_mem _ List.mem_cons_self)
    match inf, hwf with
    | w :: nest :: inf2, hwf =>
      simp only [wf_fld] at hwf
      cases hcl : m_cl[ci]? with
      | none =>
        rw [hcl] at hwf
        simp at hwf
      | some q =>
        obtain ⟨C, T, N⟩ := q
        rw [hcl] at hwf
        have h12 := m_cl_lt hcl
        obtain ⟨k1, k2, k3, k4, k5, k6⟩ := m_ck hcl
        simp only [Bool.and_eq_true, decide_eq_true_eq] at hwf
        obtain ⟨⟨⟨hj, hT⟩, hw⟩, hfin⟩ := hwf
        have hK : m_K x = (10 + ci, N) := by rw [hKx, k4]
        obtain ⟨cell, q1, q2, q3, q4⟩ := m_obj hP hlx hcl hK h12
        obtain ⟨hS0, hfc, kC, hkC, hkind⟩ := hE.1 ci _ hcl
        obtain ⟨cf, kf, fi, f, hi, hsl⟩ := hS0 j hj
        have hst := (u_facts hfc hkC (u_lays hts k1 hj) hi).1
        have hi2 : s.fieldFound? C (T j).2.1 (T j).2.2.1 = some (cf, kf, fi, f) := by rw [← hT]; exact hi
        obtain ⟨hn, hft⟩ := hnf _ rfl
        have hx : x < 1000000 := m_K_lt hK (by omega) (by omega) (by omega) (by omega)
        have hA : g_A G (g_ad G x) := by unfold g_A; rw [g_ad_own G hx]; omega
        have fin : ∀ (H' : Heap), H'[g_ad G x]? = some (cell.setSlot f.slot (m_cv (g_ad G) (g_fv G) v)) → H'.size = H.size → (∀ q, q ≠ g_ad G x → H'[q]? = H[q]?) → W p l e R s m args below meth c H' (locs ++ [⟨g_ad G x, f.slot⟩]) cells slots Q (F0 m (pc + 3) ls (st'.map (m_cv (g_ad G) (g_fv G)))) := by
          intro H' e1 e2 e3
          rw [hsl] at e1
          exact kk H' _ (m_put_HP hts hE hP hcl hK hj hlx q1 q2 q3 q4 e1 e2 e3 hz hI hR hJ (fun k _ => hv k)) (hS.put e2 e3 hA)
        have hlt : f.slot < cell.slots.size := by rw [hsl]; exact k2_hasslot (q4 j hj)
        have hlayw := hts _ (k1 _ (u_in_lay hj))
        unfold u_lay at hlayw
        by_cases hfl : (T j).2.2.2 = true
        · rw [if_pos hfl] at hlayw
          rw [if_pos hfl] at hfin
          simp only [Bool.not_true, Bool.false_or, Bool.and_eq_true, decide_eq_true_eq] at hfin
          obtain ⟨⟨hoC, hin9⟩, hn0⟩ := hfin
          rw [if_pos hn0] at hw
          have hw := of_decide_eq_true hw
          have hcf : m.cls = cf := by
            obtain ⟨_, _, c', _, _, _, -, -, hf', -, -, -, hown2, -⟩ := Cond.laysFinal_spec hlayw
            have e1 : c' = cf := by have := hi.symm.trans hf'; simp at this; exact this.1.symm
            rw [hT, ← hoC] at hown2
            rw [← e1]; exact Option.some.inj (hown.symm.trans hown2)
          have h6 := u_fits hfc hkC hkind (Or.inr hlayw) hi (k2 j hj) hn hft
          exact W.putFinK hexec hb hown (m_tbw hts hw rfl) hi2 hst hcf (hini hin9) (by rw [q2]; exact h6) q1 q3 hlt rfl rfl hd fin
        · rw [if_neg hfl] at hlayw
          have h6 := u_store hfc hkC hkind hlayw hi (k2 j hj) hn hft
          split at hw
          · have hw := of_decide_eq_true hw
            exact W.putK hexec hb (f := f) ⟨hown, m_tbw hts hw rfl, ⟨_, _, _, hi2⟩, hst⟩ (by rw [q2]; exact h6) q1 q3 hlt rfl rfl hd fin
          · have hw := of_decide_eq_true hw
            exact va_WputK hexec hb hown (va_Nw.use rfl (hE.2.2.1 _ (m_nest_mem hw rfl))) hi2 hst (by rw [q2]; exact h6) q1 q3 hlt rfl rfl hd fin
    | [], hwf => simp [wf_fld] at hwf
    | [_], hwf => simp [wf_fld] at hwf
  have nfo : ∀ {ci j : Nat}, j < m_nf ci → ∃ C T N, m_cl[ci]? = some (C, T, N) ∧ N = m_nf ci := by
    intro ci j hj
    cases hcl : m_cl[ci]? with
    | none =>
      have h9 : m_cl.length ≤ ci := by simpa using hcl
      have h8 : m_nf ci = 0 := by
        unfold m_nf
        rw [List.getD_eq_getElem?_getD, List.getElem?_eq_none (by exact h9)]
        rfl
      omega
    | some q =>
      obtain ⟨C, T, N⟩ := q
      exact ⟨C, T, N, rfl, (m_ck hcl).2.2.2.1.symm⟩
  unfold h_put at hp
  split at hp
  · rename_i ci j inf x9 x r
    split at hp
    · rename_i hc
      obtain ⟨rfl, rfl⟩ : r = st' ∧ _ = h' := by simpa using hp
      obtain ⟨C, T, N, hcl, hN⟩ := nfo hc.2.1
      refine core ci j inf (.int x9) x r rfl rfl hc.1 hc.2.1 rfl rfl (fun d hd => m_up_ne hd) (fun _ _ => rfl) (fun _ => rfl) (fun k => ?_) (fun ty hty => ?_)
      · unfold m_fv
        by_cases hk : k = j
        · subst hk
          rw [if_pos rfl, if_pos hc.2.2]
          simp only [m_up_at, if_true]
          rfl
        · rw [if_neg hk]
          split
          · simp only [m_up_at, if_neg hk]
          · rfl
      · rw [(m_ck hcl).2.2.2.2.1 j (by rw [hN]; exact hc.2.1) hc.2.2] at hty
        subst hty
        exact ⟨rfl, rfl⟩
    · cases hp
  · rename_i ci j inf d9 x r
    split at hp
    · rename_i hc
      obtain ⟨rfl, rfl⟩ : r = st' ∧ _ = h' := by simpa using hp
      obtain ⟨C, T, N, hcl, hN⟩ := nfo hc.2.1
      refine core ci j inf (.ref d9) x r rfl rfl hc.1 hc.2.1 rfl rfl (fun _ _ => rfl) (fun d hd => m_up_ne hd) (fun _ => rfl) (fun k => ?_) (fun ty hty => ?_)
      · unfold m_fv
        by_cases hk : k = j
        · subst hk
          rw [if_pos rfl, if_neg (by rw [hc.2.2]; decide)]
          simp only [m_up_at, if_true]
          rfl
        · rw [if_neg hk]
          split
          · rfl
          · simp only [m_up_at, if_neg hk]
      · rcases (m_ck hcl).2.2.2.2.2 j (by rw [hN]; exact hc.2.1) hc.2.2 with ⟨n, hn⟩ | ⟨t, ht⟩
        · rw [hn] at hty; subst hty; exact ⟨rfl, rfl⟩
        · rw [ht] at hty; subst hty; exact ⟨rfl, rfl⟩
    · cases hp
  · cases hp
end MSH
