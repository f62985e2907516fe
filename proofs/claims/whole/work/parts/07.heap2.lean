/-! ===== arrays, new cells, constants ===== -/
section MSA
variable {p : Program} {l : Launch} {e : Env} {R : Room} {s : State} {m : MethodId} {args : Array Value} {below : List Frame} {meth : Method} {c : Code} {H : Heap} {locs : List Loc} {cells slots : Nat} {Q : State → Prop}
variable {cc : ByteArray} {pc : Nat} {ls : Array Slot} {rest : List Value} {G : MG} {E : MEnv} {h : MH} {own : String}
theorem m_at {x t : Nat} (hP : m_HP G h H) (hl : m_live h x) (hK : (m_K x).1 = t) (h0 : t ≠ 0) (h6 : t ≠ 6) (h7 : t ≠ 7) (h22 : t ≠ 22) : m_cell G h H x ∧ x < 1000000 := by
  have hx : x < 1000000 := m_K_lt1 hK h0 h6 h7 h22
  exact ⟨hP.2 x (m_live_own hl hx) hx, hx⟩
theorem m_K6 {x : Nat} (hc1 : (m_K x).1 = 6) : 1000100 ≤ x ∧ x < 1000106 ∧ m_K x = (6, (m_str (x - 1000100)).length) := by
  have hn : ¬ x < 537 := by
    intro q
    have hlt : ∀ y : Fin 537, (m_K1 y.val).1 ≠ 6 := by decide +kernel
    rw [m_K, if_pos q] at hc1
    exact hlt ⟨x, q⟩ hc1
  rw [m_K, if_neg hn] at hc1
  rw [m_K, if_neg hn]
  unfold m_K2 at hc1 ⊢
  split at hc1
  · cases hc1
  · split at hc1
    · cases hc1
    · split at hc1
      · cases hc1
      · split at hc1
        · rename_i q1 q2 q3 q4
          exact ⟨by omega, q4, by rw [if_neg q1, if_neg q2, if_neg q3, if_pos q4]⟩
        · split at hc1 <;> cases hc1
theorem m_strs : ∀ k : Fin 6, m_str k.val = m_sb.getD k.val [] ∧ (m_str k.val).length = m_sl.getD k.val 0 := by decide +kernel
theorem m_byt (hE : m_Env G E s s.heap) {x : Nat} (hc1 : (m_K x).1 = 6) : va_T .byte (g_ad G x) (m_K x).2 (fun j => .int ((m_str (x - 1000100)).getD j 0)) (g_A G) s s.heap := by
  obtain ⟨h1, h2, h3⟩ := m_K6 hc1
  obtain ⟨-, -, -, s4⟩ := hE.2.2.2.1.2.1 (x - 1000100) (by omega)
  obtain ⟨e1, e2⟩ := m_strs ⟨x - 1000100, by omega⟩
  have e0 : g_ad G x = G.2.2.2.2.2.1 (x - 1000100) := by
    rw [g_ad, if_neg (by omega), if_neg (by omega), if_pos (by omega)]
  have e9 : (m_K x).2 = (m_str (x - 1000100)).length := by rw [h3]
  simp only [] at e1 e2
  rw [e9, e0, e2, e1]
  exact s4
theorem m_scr (hE : m_Env G E s s.heap) : va_X (g_ad G 2000000) E.2.1 E.2.2 s s.heap ∧ g_ad G 2000000 < s.heap.size ∧ ¬ g_A G (g_ad G 2000000) := by
  have e0 : g_ad G 2000000 = G.2.2.2.2.2.2.1 := by
    rw [g_ad, if_neg (by omega), if_neg (by omega), if_neg (by omega)]
  rw [e0]
  obtain ⟨h1, h2, h3⟩ := hE.2.2.2.2.2.2.1
  exact ⟨h1, h3, by unfold g_A; omega⟩

theorem m_sim_iald (hexec : p.tables.exec = Jvm.exec) (hb : c.code = cc) (hE : m_Env G E s s.heap) (hP : m_HP G h H) (hS : va_S (g_A G) s.heap H locs) {st st' : List Value} {h' : MH} (hp : h_iald E st h = some (st', h')) (hok : ∀ v ∈ st, m_okv h v) (hd : decode cc pc = .ok (.iaload, 1))
    (kk : h' = h → W p l e R s m args below meth c H locs cells slots Q (F0 m (pc + 1) ls (st'.map (m_cv (g_ad G) (g_fv G))))) : W p l e R s m args below meth c H locs cells slots Q (F0 m pc ls (st.map (m_cv (g_ad G) (g_fv G)))) := by
  unfold h_iald at hp
  split at hp
  · rename_i i x r
    split at hp
    · rename_i hK
      split at hp
      · cases hp
      · rename_i hin
        obtain ⟨rfl, rfl⟩ : _ = st' ∧ h = h' := by simpa using hp
        have hc := (m_at hP (hok _ (List.mem_cons_of_mem _ List.mem_cons_self)) hK (by decide) (by decide) (by decide) (by decide)).1.1 hK
        have hlt : i.toNatClampNeg < (m_K x).2 := Nat.not_le.mp fun q => hin (Or.inr q)
        exact W.iald (v := .int (h.2.2.2.1 x i.toNatClampNeg)) hexec hb hc (hE.2.1.1.1 _ _) (fun q => by cases q) (by show ¬ (i < 0 ∨ (arrV _ _ _).slots.size ≤ _); rw [arrV_size]; exact hin) (by show (arrV _ _ _).slots[_]? = _; rw [arrV_read _ _ hlt]) rfl rfl hd (kk rfl)
    · split at hp
      · rename_i hx
        subst hx
        split at hp
        · cases hp
        · rename_i hin
          obtain ⟨rfl, rfl⟩ : _ = st' ∧ h = h' := by simpa using hp
          obtain ⟨s1, s2, s3⟩ := m_scr hE
          exact va_sld hexec hb s1 s2 s3 hS hin hd (kk rfl)
      · cases hp
  · cases hp
theorem m_sim_bald (hexec : p.tables.exec = Jvm.exec) (hb : c.code = cc) (hE : m_Env G E s s.heap) (hP : m_HP G h H) (hS : va_S (g_A G) s.heap H locs) {st st' : List Value} {h' : MH} (hp : h_bald st h = some (st', h')) (hok : ∀ v ∈ st, m_okv h v) (hd : decode cc pc = .ok (.baload, 1))
    (kk : h' = h → W p l e R s m args below meth c H locs cells slots Q (F0 m (pc + 1) ls (st'.map (m_cv (g_ad G) (g_fv G))))) : W p l e R s m args below meth c H locs cells slots Q (F0 m pc ls (st.map (m_cv (g_ad G) (g_fv G)))) := by
  unfold h_bald at hp
  split at hp
  · rename_i i x r
    split at hp
    · rename_i hK
      split at hp
      · cases hp
      · rename_i hin
        obtain ⟨rfl, rfl⟩ : _ = st' ∧ h = h' := by simpa using hp
        have hc := (m_at hP (hok _ (List.mem_cons_of_mem _ List.mem_cons_self)) hK (by decide) (by decide) (by decide) (by decide)).1.2.1 hK
        have hlt : i.toNatClampNeg < (m_K x).2 := Nat.not_le.mp fun q => hin (Or.inr q)
        exact W.bald (v := .int (h.2.2.2.1 x i.toNatClampNeg)) hexec hb hc (hE.2.1.2.1.1 _ _) (fun q => by cases q) (by show ¬ (i < 0 ∨ (arrV _ _ _).slots.size ≤ _); rw [arrV_size]; exact hin) (by show (arrV _ _ _).slots[_]? = _; rw [arrV_read _ _ hlt]) rfl rfl hd (kk rfl)
    · split at hp
      · rename_i hK
        split at hp
        · cases hp
        · rename_i hin
          obtain ⟨rfl, rfl⟩ : _ = st' ∧ h = h' := by simpa using hp
          exact va_tb hexec hb (m_byt hE hK) hS hin rfl hd (kk rfl)
      · cases hp
  · cases hp
theorem m_sim_lald (hexec : p.tables.exec = Jvm.exec) (hb : c.code = cc) (hE : m_Env G E s s.heap) (hP : m_HP G h H) (hS : va_S (g_A G) s.heap H locs) {st st' : List Value} {h' : MH} (hp : h_lald st h = some (st', h')) (hok : ∀ v ∈ st, m_okv h v) (hd : decode cc pc = .ok (.laload, 1))
    (kk : h' = h → W p l e R s m args below meth c H locs cells slots Q (F0 m (pc + 1) ls (st'.map (m_cv (g_ad G) (g_fv G))))) : W p l e R s m args below meth c H locs cells slots Q (F0 m pc ls (st.map (m_cv (g_ad G) (g_fv G)))) := by
  unfold h_lald at hp
  split at hp
  · rename_i i x r
    split at hp
    · rename_i hK
      split at hp
      · cases hp
      · rename_i hin
        obtain ⟨rfl, rfl⟩ : _ = st' ∧ h = h' := by simpa using hp
        have hc := (m_at hP (hok _ (List.mem_cons_of_mem _ List.mem_cons_self)) hK (by decide) (by decide) (by decide) (by decide)).1.2.2.1 hK
        have hlt : i.toNatClampNeg < (m_K x).2 := Nat.not_le.mp fun q => hin (Or.inr q)
        exact W.lald (v := .long (h.2.2.2.2 x i.toNatClampNeg)) hexec hb hc (hE.2.1.2.2.1.1 _ _) (fun q => by cases q) (by show ¬ (i < 0 ∨ (arrV _ _ _).slots.size ≤ _); rw [arrV_size]; exact hin) (by show (arrV _ _ _).slots[_]? = _; rw [arrV_read _ _ hlt]) rfl rfl hd (kk rfl)
    · cases hp
  · cases hp
theorem m_sim_aald (hexec : p.tables.exec = Jvm.exec) (hb : c.code = cc) (hE : m_Env G E s s.heap) (hP : m_HP G h H) (hS : va_S (g_A G) s.heap H locs) {st st' : List Value} {h' : MH} (hp : h_aald st h = some (st', h')) (hok : ∀ v ∈ st, m_okv h v) (hd : decode cc pc = .ok (.aaload, 1))
    (kk : h' = h → W p l e R s m args below meth c H locs cells slots Q (F0 m (pc + 1) ls (st'.map (m_cv (g_ad G) (g_fv G))))) : W p l e R s m args below meth c H locs cells slots Q (F0 m pc ls (st.map (m_cv (g_ad G) (g_fv G)))) := by
  unfold h_aald at hp
  split at hp
  · rename_i i x r
    split at hp
    · rename_i hK
      split at hp
      · cases hp
      · rename_i hin
        obtain ⟨rfl, rfl⟩ : _ = st' ∧ h = h' := by simpa using hp
        have hc := (m_at hP (hok _ (List.mem_cons_of_mem _ List.mem_cons_self)) hK (by decide) (by decide) (by decide) (by decide)).1.2.2.2.1 hK
        have hlt : i.toNatClampNeg < (m_K x).2 := Nat.not_le.mp fun q => hin (Or.inr q)
        have hk2 := kk rfl
        rw [List.map_cons, m_cv_rf] at hk2
        exact W.aald (v := va_rf ((h.2.2.1 x i.toNatClampNeg).map (g_ad G))) (ty := .array .int) hexec hb hc (hE.2.1.2.2.2.1.1 _ _) rfl (fun q => by cases q) (by show ¬ (i < 0 ∨ (arrV _ _ _).slots.size ≤ _); rw [arrV_size]; exact hin) (by show (arrV _ _ _).slots[_]? = _; rw [arrV_read _ _ hlt]) rfl rfl hd hk2
    · cases hp
  · cases hp
theorem m_sim_iast (hexec : p.tables.exec = Jvm.exec) (hb : c.code = cc) (hE : m_Env G E s s.heap) (hP : m_HP G h H) (hS : va_S (g_A G) s.heap H locs) {st st' : List Value} {h' : MH} (hp : h_iast st h = some (st', h')) (hok : ∀ v ∈ st, m_okv h v) (hd : decode cc pc = .ok (.iastore, 1))
    (kk : ∀ (H' : Heap) (locs' : List Loc), m_HP G h' H' → va_S (g_A G) s.heap H' locs' → W p l e R s m args below meth c H' locs' cells slots Q (F0 m (pc + 1) ls (st'.map (m_cv (g_ad G) (g_fv G))))) : W p l e R s m args below meth c H locs cells slots Q (F0 m pc ls (st.map (m_cv (g_ad G) (g_fv G)))) := by
  unfold h_iast at hp
  split at hp
  · rename_i v i x r
    split at hp
    · rename_i hK
      split at hp
      · cases hp
      · rename_i hin
        obtain ⟨rfl, rfl⟩ : _ = st' ∧ _ = h' := by simpa using hp
        obtain ⟨hcc, hx⟩ := m_at hP (hok _ (List.mem_cons_of_mem _ (List.mem_cons_of_mem _ List.mem_cons_self))) hK (by decide) (by decide) (by decide) (by decide)
        have hc := hcc.1 hK
        refine W.iast hexec hb hc (hE.2.1.1.1 _ _) (fun q => by cases q) (by show ¬ (i < 0 ∨ (arrV _ _ _).slots.size ≤ _); rw [arrV_size]; exact hin) rfl rfl hd fun H1 e1 z oq => ?_
        refine kk H1 _ (m_HP_upd hP hx rfl z oq (fun d hd => m_up_ne hd) (fun _ _ => rfl) (fun _ _ => rfl) (fun _ => ?_)) (hS.put z oq (by unfold g_A; rw [g_ad_own G hx]; omega))
        refine ⟨fun q => ?_, fun q => ?_, fun q => ?_, fun q => ?_, fun ci C T N q1 q2 => ?_⟩
        · rw [e1, vp_cell_i, vp_cell_i, arrV_store]
          congr 2
          funext q9
          by_cases hq : q9 = i.toNatClampNeg
          · subst hq
            simp [updV, m_up]
          · simp [updV, m_up, hq]
        · rw [hK] at q; exact absurd q (by decide)
        · rw [hK] at q; exact absurd q (by decide)
        · rw [hK] at q; exact absurd q (by decide)
        · have h12 := m_cl_lt q1
          rw [q2] at hK
          simp at hK
          omega
    · cases hp
  · cases hp
theorem m_sim_bast (hexec : p.tables.exec = Jvm.exec) (hb : c.code = cc) (hE : m_Env G E s s.heap) (hP : m_HP G h H) (hS : va_S (g_A G) s.heap H locs) {st st' : List Value} {h' : MH} (hp : h_bast st h = some (st', h')) (hok : ∀ v ∈ st, m_okv h v) (hd : decode cc pc = .ok (.bastore, 1))
    (kk : ∀ (H' : Heap) (locs' : List Loc), m_HP G h' H' → va_S (g_A G) s.heap H' locs' → W p l e R s m args below meth c H' locs' cells slots Q (F0 m (pc + 1) ls (st'.map (m_cv (g_ad G) (g_fv G))))) : W p l e R s m args below meth c H locs cells slots Q (F0 m pc ls (st.map (m_cv (g_ad G) (g_fv G)))) := by
  unfold h_bast at hp
  split at hp
  · rename_i v i x r
    split at hp
    · rename_i hK
      split at hp
      · cases hp
      · rename_i hin
        obtain ⟨rfl, rfl⟩ : _ = st' ∧ _ = h' := by simpa using hp
        obtain ⟨hcc, hx⟩ := m_at hP (hok _ (List.mem_cons_of_mem _ (List.mem_cons_of_mem _ List.mem_cons_self))) hK (by decide) (by decide) (by decide) (by decide)
        have hc := hcc.2.1 hK
        refine W.bast hexec hb hc (hE.2.1.2.1.1 _ _) (fun q => by cases q) (by show ¬ (i < 0 ∨ (arrV _ _ _).slots.size ≤ _); rw [arrV_size]; exact hin) rfl rfl hd fun H1 e1 z oq => ?_
        refine kk H1 _ (m_HP_upd hP hx rfl z oq (fun d hd => m_up_ne hd) (fun _ _ => rfl) (fun _ _ => rfl) (fun _ => ?_)) (hS.put z oq (by unfold g_A; rw [g_ad_own G hx]; omega))
        refine ⟨fun q => ?_, fun q => ?_, fun q => ?_, fun q => ?_, fun ci C T N q1 q2 => ?_⟩
        · rw [hK] at q; exact absurd q (by decide)
        · rw [e1, vp_cell_i, vp_cell_i, arrV_store]
          congr 2
          funext q9
          by_cases hq : q9 = i.toNatClampNeg
          · subst hq
            simp [updV, m_up, narrow]
          · simp [updV, m_up, hq]
        · rw [hK] at q; exact absurd q (by decide)
        · rw [hK] at q; exact absurd q (by decide)
        · have h12 := m_cl_lt q1
          rw [q2] at hK
          simp at hK
          omega
    · cases hp
  · cases hp
theorem m_sim_last (hexec : p.tables.exec = Jvm.exec) (hb : c.code = cc) (hE : m_Env G E s s.heap) (hP : m_HP G h H) (hS : va_S (g_A G) s.heap H locs) {st st' : List Value} {h' : MH} (hp : h_last st h = some (st', h')) (hok : ∀ v ∈ st, m_okv h v) (hd : decode cc pc = .ok (.lastore, 1))
    (kk : ∀ (H' : Heap) (locs' : List Loc), m_HP G h' H' → va_S (g_A G) s.heap H' locs' → W p l e R s m args below meth c H' locs' cells slots Q (F0 m (pc + 1) ls (st'.map (m_cv (g_ad G) (g_fv G))))) : W p l e R s m args below meth c H locs cells slots Q (F0 m pc ls (st.map (m_cv (g_ad G) (g_fv G)))) := by
  unfold h_last at hp
  split at hp
  · rename_i v i x r
    split at hp
    · rename_i hK
      split at hp
      · cases hp
      · rename_i hin
        obtain ⟨rfl, rfl⟩ : _ = st' ∧ _ = h' := by simpa using hp
        obtain ⟨hcc, hx⟩ := m_at hP (hok _ (List.mem_cons_of_mem _ (List.mem_cons_of_mem _ List.mem_cons_self))) hK (by decide) (by decide) (by decide) (by decide)
        have hc := hcc.2.2.1 hK
        refine W.last hexec hb hc (hE.2.1.2.2.1.1 _ _) (fun q => by cases q) (by show ¬ (i < 0 ∨ (arrV _ _ _).slots.size ≤ _); rw [arrV_size]; exact hin) rfl rfl hd fun H1 e1 z oq => ?_
        refine kk H1 _ (m_HP_upd hP hx rfl z oq (fun _ _ => rfl) (fun _ _ => rfl) (fun d hd => m_up_ne hd) (fun _ => ?_)) (hS.put z oq (by unfold g_A; rw [g_ad_own G hx]; omega))
        refine ⟨fun q => ?_, fun q => ?_, fun q => ?_, fun q => ?_, fun ci C T N q1 q2 => ?_⟩
        · rw [hK] at q; exact absurd q (by decide)
        · rw [hK] at q; exact absurd q (by decide)
        · rw [e1, vp_cell_l, vp_cell_l, arrV_store]
          congr 2
          funext q9
          by_cases hq : q9 = i.toNatClampNeg
          · subst hq
            simp [updV, m_up]
          · simp [updV, m_up, hq]
        · rw [hK] at q; exact absurd q (by decide)
        · have h12 := m_cl_lt q1
          rw [q2] at hK
          simp at hK
          omega
    · cases hp
  · cases hp
theorem m_sim_alen (hexec : p.tables.exec = Jvm.exec) (hb : c.code = cc) (hE : m_Env G E s s.heap) (hP : m_HP G h H) (hS : va_S (g_A G) s.heap H locs) {st st' : List Value} {h' : MH} (hp : h_alen E st h = some (st', h')) (hok : ∀ v ∈ st, m_okv h v) (hd : decode cc pc = .ok (.arraylength, 1))
    (kk : h' = h → W p l e R s m args below meth c H locs cells slots Q (F0 m (pc + 1) ls (st'.map (m_cv (g_ad G) (g_fv G))))) : W p l e R s m args below meth c H locs cells slots Q (F0 m pc ls (st.map (m_cv (g_ad G) (g_fv G)))) := by
  unfold h_alen at hp
  split at hp
  · rename_i x r
    have hlx : m_live h x := hok _ List.mem_cons_self
    split at hp
    · rename_i hK
      obtain ⟨rfl, rfl⟩ : _ = st' ∧ h = h' := by simpa using hp
      rcases hK with hK | hK | hK | hK | hK
      · have hc := (m_at hP hlx hK (by decide) (by decide) (by decide) (by decide)).1.1 hK
        exact W.alen (n := Int32.ofNat (m_K x).2) hexec hb hc (hE.2.1.1.1 _ _) (by rw [vp_cell_i, arrV_size] <;> rfl) rfl rfl hd (kk rfl)
      · have hc := (m_at hP hlx hK (by decide) (by decide) (by decide) (by decide)).1.2.1 hK
        exact W.alen (n := Int32.ofNat (m_K x).2) hexec hb hc (hE.2.1.2.1.1 _ _) (by rw [vp_cell_i, arrV_size] <;> rfl) rfl rfl hd (kk rfl)
      · have hc := (m_at hP hlx hK (by decide) (by decide) (by decide) (by decide)).1.2.2.1 hK
        exact W.alen (n := Int32.ofNat (m_K x).2) hexec hb hc (hE.2.1.2.2.1.1 _ _) (by rw [vp_cell_l, arrV_size] <;> rfl) rfl rfl hd (kk rfl)
      · have hc := (m_at hP hlx hK (by decide) (by decide) (by decide) (by decide)).1.2.2.2.1 hK
        exact W.alen (n := Int32.ofNat (m_K x).2) hexec hb hc (hE.2.1.2.2.2.1.1 _ _) (by rw [vp_cell_q, arrV_size] <;> rfl) rfl rfl hd (kk rfl)
      · obtain ⟨cell, h1, h2, h3, h4, h5, h6, h7⟩ := m_byt hE hK
        exact W.alen (n := Int32.ofNat (m_K x).2) hexec hb (by rw [hS.2.1 _ (Array.getElem?_eq_some_iff.mp h1).1 h7]; exact h1) h2 h5 rfl rfl hd (kk rfl)
    · split at hp
      · rename_i hx
        subst hx
        obtain ⟨rfl, rfl⟩ : _ = st' ∧ h = h' := by simpa using hp
        obtain ⟨s1, s2, s3⟩ := m_scr hE
        exact va_slen hexec hb s1 s2 s3 hS hd (kk rfl)
      · cases hp
  · cases hp
def wf_ldc (own : String) (idx : Nat) (info : List Nat) : Bool := match info with
  | 0 :: v :: w :: _ => decide (lw_tbl[w]? = some (.constant own idx (Int32.ofNat v)))
  | 1 :: k :: _ => decide (own = m_so k) && decide (idx = m_si k)
  | _ => false
theorem m_sim_ldc (hexec : p.tables.exec = Jvm.exec) (hb : c.code = cc) (hE : m_Env G E s s.heap) (hP : m_HP G h H) (hS : va_S (g_A G) s.heap H locs) (hown : s.vm.findClass own = some m.cls) (hts : ∀ w ∈ m_tb, w.before args s = true) {idx : Nat} {info : List Nat} {st st' : List Value} {h' : MH} (hwf : wf_ldc own idx info = true) (hp : h_ldc info st h = some (st', h')) (hd : decode cc pc = .ok (.ldc idx, 2))
    (kk : h' = h → W p l e R s m args below meth c H locs cells slots Q (F0 m (pc + 2) ls (st'.map (m_cv (g_ad G) (g_fv G))))) : W p l e R s m args below meth c H locs cells slots Q (F0 m pc ls (st.map (m_cv (g_ad G) (g_fv G)))) := by
  unfold h_ldc at hp
  split at hp
  · rename_i v inf
    obtain ⟨rfl, rfl⟩ : _ = st' ∧ h = h' := by simpa using hp
    cases inf with
    | nil => simp [wf_ldc] at hwf
    | cons w inf =>
      have hw : lw_tbl[w]? = _ := of_decide_eq_true hwf
      exact lv_ldc hexec hb hown (m_tbw hts hw rfl) hd (kk rfl)
  · rename_i k inf
    split at hp
    · rename_i hk
      obtain ⟨rfl, rfl⟩ : _ = st' ∧ h = h' := by simpa using hp
      simp only [wf_ldc, Bool.and_eq_true, decide_eq_true_eq] at hwf
      have hR := hE.2.2.2.1.1 k hk
      rw [← hwf.1, ← hwf.2] at hR
      refine va_ldcS hexec hb hown hR hd ?_
      have hk2 := kk rfl
      rw [List.map_cons] at hk2
      have e9 : m_cv (g_ad G) (g_fv G) (.ref (1000000 + k)) = .ref (G.2.2.2.2.1 k) := by
        show Value.ref (g_ad G (1000000 + k)) = _
        rw [g_ad, if_neg (by omega), if_pos (by omega), show 1000000 + k - 1000000 = k by omega]
      rw [e9] at hk2
      exact hk2
    · cases hp
  · cases hp
theorem m_sim_ldcw (hexec : p.tables.exec = Jvm.exec) (hb : c.code = cc) (hE : m_Env G E s s.heap) (hP : m_HP G h H) (hS : va_S (g_A G) s.heap H locs) (hown : s.vm.findClass own = some m.cls) (hts : ∀ w ∈ m_tb, w.before args s = true) {idx : Nat} {info : List Nat} {st st' : List Value} {h' : MH} (hwf : wf_ldc own idx info = true ∧ info.getD 0 1 = 0) (hp : h_ldc info st h = some (st', h')) (hd : decode cc pc = .ok (.ldc_w idx, 3))
    (kk : h' = h → W p l e R s m args below meth c H locs cells slots Q (F0 m (pc + 3) ls (st'.map (m_cv (g_ad G) (g_fv G))))) : W p l e R s m args below meth c H locs cells slots Q (F0 m pc ls (st.map (m_cv (g_ad G) (g_fv G)))) := by
  obtain ⟨hwf, h0⟩ := hwf
  unfold h_ldc at hp
  split at hp
  · rename_i v inf
    obtain ⟨rfl, rfl⟩ : _ = st' ∧ h = h' := by simpa using hp
    cases inf with
    | nil => simp [wf_ldc] at hwf
    | cons w inf =>
      have hw : lw_tbl[w]? = _ := of_decide_eq_true hwf
      exact lv_ldcw hexec hb hown (m_tbw hts hw rfl) hd (kk rfl)
  · simp at h0
  · cases hp
def wf_gst (own : String) (idx : Nat) (info : List Nat) : Bool := match info with
  | 0 :: w :: _ => decide (lw_tbl[w]? = some (.fieldLink own idx "java/lang/String" "COMPACT_STRINGS" "Z"))
  | 1 :: w :: _ => decide (lw_tbl[w]? = some (.fieldLink own idx "jdk/internal/util/Preconditions" "SIOOBE_FORMATTER" "Ljava/util/function/BiFunction;"))
  | _ => false
theorem m_sim_gst (hexec : p.tables.exec = Jvm.exec) (hb : c.code = cc) (hE : m_Env G E s s.heap) (hP : m_HP G h H) (hS : va_S (g_A G) s.heap H locs) (hown : s.vm.findClass own = some m.cls) (hts : ∀ w ∈ m_tb, w.before args s = true) {idx : Nat} {info : List Nat} {st st' : List Value} {h' : MH} (hwf : wf_gst own idx info = true) (hp : h_gst info st h = some (st', h')) (hd : decode cc pc = .ok (.getstatic idx, 3))
    (kk : h' = h → W p l e R s m args below meth c H locs cells slots Q (F0 m (pc + 3) ls (st'.map (m_cv (g_ad G) (g_fv G))))) : W p l e R s m args below meth c H locs cells slots Q (F0 m pc ls (st.map (m_cv (g_ad G) (g_fv G)))) := by
  unfold h_gst at hp
  split at hp
  · rename_i inf
    obtain ⟨rfl, rfl⟩ : _ = st' ∧ h = h' := by simpa using hp
    cases inf with
    | nil => simp [wf_gst] at hwf
    | cons w inf =>
      have hw : lw_tbl[w]? = _ := of_decide_eq_true hwf
      exact va_gets hexec hb hE.2.2.2.2.2.1.1 hS hown (m_tbw hts hw rfl) (fun _ z => z) hd (kk rfl)
  · rename_i inf
    obtain ⟨rfl, rfl⟩ : _ = st' ∧ h = h' := by simpa using hp
    cases inf with
    | nil => simp [wf_gst] at hwf
    | cons w inf =>
      have hw : lw_tbl[w]? = _ := of_decide_eq_true hwf
      exact va_gets hexec hb hE.2.2.2.2.2.1.2.1 hS hown (m_tbw hts hw rfl) (fun _ z => z) hd (kk rfl)
  · cases hp
end MSA
