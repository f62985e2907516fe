/-! ===== every run of the mini machine is a run of the machine ===== -/
set_option maxHeartbeats 2000000 in
theorem m_pure_len {ins : Instr} {loc loc' : MLoc} {st st' : List Value} (hp : m_pure ins loc st = some (loc', st')) : loc'.length = loc.length := by
  cases ins <;> simp only [m_pure, q_i2, q_i2d, q_i1, q_l2, q_l2d, q_lcmp, q_lshl, q_i2l, q_ild, q_lld, q_ald, q_ist, q_ast, q_lst, q_inc, q_dup, q_dup2, q_pop] at hp <;>
    first
    | (cases hp; done)
    | (cases hp; rfl)
    | (split at hp
       · first
         | (cases hp; rfl)
         | (rename_i x hx; cases hp; exact m_st1_len _ _ _ (by have := List.getElem?_eq_some_iff.mp hx; exact this.1))
         | (split at hp
            · first
              | (cases hp; done)
              | (cases hp; rfl)
              | (rename_i hi; cases hp; exact m_st1_len _ _ _ hi)
              | (rename_i hi; cases hp; exact m_st2_len _ _ _ hi)
            · first
              | (cases hp; done)
              | (cases hp; rfl))
       · cases hp)
def m_pass (own : String) (args : Array Value) (s : State) (x pc : Nat) (z : ExceptionTableEntry) : Prop := covers z pc = false ∨ (z.catchType ≠ 0 ∧ ∃ nm : String, (Cond.classLink own z.catchType nm).before args s = true ∧ va_Nc (m_exn x) nm s)
def m_hent (k ip pc : Nat) (q : (Nat × Nat × Nat × Nat) × (Nat × Nat × Nat × Nat × Nat)) : Bool := (decide (q.1.1 ≤ pc ∧ pc < q.1.2.1) == decide (q.2.1 ≤ ip ∧ ip < q.2.2.1)) && decide (q.1.2.2.2 ≠ 0) && decide (q.2.2.2.2.1 < 2) && decide (lw_tbl[q.2.2.2.2.2]? = some (.classLink (m_y k).cls q.1.2.2.2 (m_exn q.2.2.2.2.1))) &&
    (match m_code k q.2.2.2.1 with
    | some e => decide (e.2.1 = q.1.2.2.1) && m_nxt e.2.1 (m_len e.2.2.1) (m_code k) q.2.2.2.1 && decide (decode (m_bytes k) e.2.1 = .ok (e.2.2.1, m_len e.2.2.1)) && (match e.2.2.1 with
      | .astore i => decide (i < m_maxl k)
      | .astore_n i => decide ((i : Nat) < m_maxl k)
      | _ => false)
    | none => false)
def m_hdl (k hp hpc : Nat) : Prop := ∃ e9 : MI, m_code k hp = some e9 ∧ e9.2.1 = hpc ∧ m_nxt e9.2.1 (m_len e9.2.2.1) (m_code k) hp = true ∧ decode (m_bytes k) e9.2.1 = .ok (e9.2.2.1, m_len e9.2.2.1) ∧ ((∃ i, e9.2.2.1 = .astore i ∧ i < m_maxl k) ∨ ∃ i : Fin 4, e9.2.2.1 = .astore_n i ∧ (i : Nat) < m_maxl k)
section MSM
variable {p : Program} {l : Launch} {e : Env} {R : Room} {s : State} {m : MethodId} {args : Array Value} {below : List Frame} {meth : Method} {c : Code} {H : Heap} {locs : List Loc} {cells slots : Nat} {Q : State → Prop}
variable {cc : ByteArray} {pc : Nat} {ls : Array Slot} {rest : List Value} {G : MG} {E : MEnv} {h : MH} {own : String}
theorem m_Nc2 (hE : m_Env G E s s.heap) {x y : Nat} (hx : x < 2) (hy : y < 2) (hne : x ≠ y) : va_Nc (m_exn x) (m_exn y) s := by
  have h9 := hE.2.2.2.2.2.2.2
  have q : (x = 0 ∧ y = 1) ∨ (x = 1 ∧ y = 0) := by omega
  rcases q with ⟨rfl, rfl⟩ | ⟨rfl, rfl⟩
  · exact h9.1
  · exact h9.2
theorem m_hent_spec {k ip : Nat} {q : (Nat × Nat × Nat × Nat) × (Nat × Nat × Nat × Nat × Nat)} (hq : m_hent k ip pc q = true) : ((q.1.1 ≤ pc ∧ pc < q.1.2.1) ↔ (q.2.1 ≤ ip ∧ ip < q.2.2.1)) ∧ q.1.2.2.2 ≠ 0 ∧ q.2.2.2.2.1 < 2 ∧ lw_tbl[q.2.2.2.2.2]? = some (.classLink (m_y k).cls q.1.2.2.2 (m_exn q.2.2.2.2.1)) ∧ m_hdl k q.2.2.2.1 q.1.2.2.1 := by
  unfold m_hent at hq
  simp only [Bool.and_eq_true] at hq
  obtain ⟨⟨⟨⟨h1, h2⟩, h3⟩, h4⟩, h5⟩ := hq
  refine ⟨?_, of_decide_eq_true h2, of_decide_eq_true h3, of_decide_eq_true h4, ?_⟩
  · have := eq_of_beq h1
    rw [decide_eq_decide] at this
    exact this
  · cases hc : m_code k q.2.2.2.1 with
    | none => rw [hc] at h5; cases h5
    | some e9 =>
      rw [hc] at h5
      simp only [Bool.and_eq_true] at h5
      obtain ⟨⟨⟨a1, a2⟩, a3⟩, a4⟩ := h5
      refine ⟨e9, hc, of_decide_eq_true a1, a2, of_decide_eq_true a3, ?_⟩
      split at a4
      · rename_i i hi
        exact Or.inl ⟨i, hi, of_decide_eq_true a4⟩
      · rename_i i hi
        exact Or.inr ⟨i, hi, of_decide_eq_true a4⟩
      · cases a4
theorem m_hpass (hE : m_Env G E s s.heap) (hts : ∀ w ∈ m_tb, w.before args s = true) {k ip x : Nat} (hx : x < 2) {q : (Nat × Nat × Nat × Nat) × (Nat × Nat × Nat × Nat × Nat)} (hq : m_hent k ip pc q = true) (hn : ¬ (q.2.1 ≤ ip ∧ ip < q.2.2.1 ∧ q.2.2.2.2.1 = x)) : m_pass (m_y k).cls args s x pc ⟨q.1.1, q.1.2.1, q.1.2.2.1, q.1.2.2.2⟩ := by
  obtain ⟨h1, h2, h3, h4, -⟩ := m_hent_spec hq
  by_cases hc : q.1.1 ≤ pc ∧ pc < q.1.2.1
  · refine Or.inr ⟨h2, _, m_tbw hts h4 rfl, m_Nc2 hE hx h3 (fun e9 => hn ?_)⟩
    have := h1.mp hc
    exact ⟨this.1, this.2, e9.symm⟩
  · refine Or.inl ?_
    show (decide (q.1.1 ≤ pc) && decide (pc < q.1.2.1)) = false
    by_cases h9 : q.1.1 ≤ pc
    · have : ¬ pc < q.1.2.1 := fun h8 => hc ⟨h9, h8⟩
      simp [this]
    · simp [h9]
theorem m_hnone (hE : m_Env G E s s.heap) (hts : ∀ w ∈ m_tb, w.before args s = true) {k ip x : Nat} (hx : x < 2) : ∀ (hh : List (Nat × Nat × Nat × Nat)) (hs : List (Nat × Nat × Nat × Nat × Nat)), hh.length = hs.length → (hh.zip hs).all (m_hent k ip pc) = true → m_hfind hs ip x = none → ∀ z ∈ tableOf hh, m_pass (m_y k).cls args s x pc z
  | [], _, _, _, _ => fun z hz => by cases hz
  | a :: hh, [], hl, _, _ => by simp at hl
  | a :: hh, b :: hs, hl, ha, hf => by
    obtain ⟨b1, b2, b3, b4, b5⟩ := b
    rw [List.zip_cons_cons, List.all_cons, Bool.and_eq_true] at ha
    rw [m_hfind] at hf
    split at hf
    · cases hf
    · rename_i hn
      have ih := m_hnone hE hts hx hh hs (by simpa using hl) ha.2 hf
      intro z hz
      rcases List.mem_cons.mp (show z ∈ (⟨a.1, a.2.1, a.2.2.1, a.2.2.2⟩ : ExceptionTableEntry) :: tableOf hh from hz) with rfl | hz
      · exact m_hpass hE hts hx ha.1 hn
      · exact ih z hz
theorem m_hsome (hE : m_Env G E s s.heap) (hts : ∀ w ∈ m_tb, w.before args s = true) {k ip x : Nat} (hx : x < 2) {hp : Nat} : ∀ (hh : List (Nat × Nat × Nat × Nat)) (hs : List (Nat × Nat × Nat × Nat × Nat)), hh.length = hs.length → (hh.zip hs).all (m_hent k ip pc) = true → m_hfind hs ip x = some hp → ∃ (pre : List ExceptionTableEntry) (z : ExceptionTableEntry) (suf : List ExceptionTableEntry), tableOf hh = pre ++ z :: suf ∧ (∀ y ∈ pre, m_pass (m_y k).cls args s x pc y) ∧ covers z pc = true ∧ z.catchType ≠ 0 ∧ (Cond.classLink (m_y k).cls z.catchType (m_exn x)).before args s = true ∧ m_hdl k hp z.handlerPc
  | [], [], _, _, hf => by cases hf
  | [], _ :: _, hl, _, _ => by simp at hl
  | a :: hh, [], hl, _, _ => by simp at hl
  | a :: hh, b :: hs, hl, ha, hf => by
    obtain ⟨b1, b2, b3, b4, b5⟩ := b
    rw [List.zip_cons_cons, List.all_cons, Bool.and_eq_true] at ha
    rw [m_hfind] at hf
    split at hf
    · rename_i hc
      cases hf
      obtain ⟨h1, h2, h3, h4, h5⟩ := m_hent_spec ha.1
      have hcov := h1.mpr ⟨hc.1, hc.2.1⟩
      refine ⟨[], ⟨a.1, a.2.1, a.2.2.1, a.2.2.2⟩, tableOf hh, rfl, (fun y hy => by cases hy), ?_, h2, ?_, h5⟩
      · show (decide (a.1 ≤ pc) && decide (pc < a.2.1)) = true
        rw [Bool.and_eq_true]
        exact ⟨decide_eq_true hcov.1, decide_eq_true hcov.2⟩
      · have h6 := m_tbw hts h4 rfl
        rw [← hc.2.2]
        exact h6
    · rename_i hn
      obtain ⟨pre, z, suf, e1, e2, e3⟩ := m_hsome hE hts hx hh hs (by simpa using hl) ha.2 hf
      refine ⟨⟨a.1, a.2.1, a.2.2.1, a.2.2.2⟩ :: pre, z, suf, by show _ :: tableOf hh = _; rw [e1]; rfl, fun y hy => ?_, e3⟩
      rcases List.mem_cons.mp hy with rfl | hy
      · exact m_hpass hE hts hx ha.1 hn
      · exact e2 y hy
theorem m_hcast (hE : m_Env G E s s.heap) {x : Nat} (hx : x < 2) : (Cond.castable (m_exn x) (m_exn x)).before args s = true := by
  have q : x = 0 ∨ x = 1 := by omega
  rcases q with rfl | rfl
  · exact va_Nw.use rfl (hE.2.2.1 _ (m_nest_mem m_cst.1 rfl))
  · exact va_Nw.use rfl (hE.2.2.1 _ (m_nest_mem m_cst.2 rfl))
theorem m_LV_none (ad : Nat → Nat) (fv : Value) {ls : Array Slot} {loc : MLoc} (h1 : ls.size = loc.length) (h2 : lv_wf ls) : m_LV ad fv ls (loc.map fun _ => none) := by
  refine ⟨by rw [List.length_map]; exact h1, h2, fun i v hv => ?_⟩
  rw [List.getElem?_map] at hv
  cases hq : loc[i]? with
  | none => rw [hq] at hv; cases hv
  | some o => rw [hq] at hv; cases hv
theorem m_at_all (hE : m_Env G E s s.heap) (hts : ∀ w ∈ m_tb, w.before args s = true) {L : List Nat} (hg : L.all (fun i => match lw_tbl[i]? with | some w => goodWord w || m_isN w | none => false) = true) : ∀ w ∈ L.filterMap (fun i => lw_tbl[i]?), w.before args s = true := by
  intro w hw
  obtain ⟨i, hi, hiw⟩ := List.mem_filterMap.mp hw
  have h1 := List.all_eq_true.mp hg i hi
  rw [hiw] at h1
  simp only [Bool.or_eq_true] at h1
  rcases h1 with h1 | h1
  · exact m_tbw hts hiw h1
  · have h2 := hE.2.2.1 w (m_nest_mem hiw h1)
    have h3 : w.onTables = true := by
      cases w <;> first | (simp [m_isN] at h1; done) | rfl
    exact va_Nw.use h3 h2
theorem m_HP_exn {t : Heap} (hP : m_HP G h H) (h1 : 537 ≤ h.1) (h2 : h.1 < 1000000) (hz : t.size = H.size + 1) (hq : ∀ q : Nat, q < H.size → t[q]? = H[q]?) : m_HP G (h.1 + 1, h.2.1 + 6, h.2.2) t := by
  refine ⟨by rw [hz, hP.1]; rfl, fun d hd hd2 => ?_⟩
  have hd : d < h.1 + 1 := hd
  by_cases e : d = h.1
  · have hK : m_K d = (0, 0) := m_K_big (by omega) hd2
    refine ⟨fun q => ?_, fun q => ?_, fun q => ?_, fun q => ?_, fun cj C' T' N' q1 q2 => ?_⟩
    · rw [hK] at q; cases q
    · rw [hK] at q; cases q
    · rw [hK] at q; cases q
    · rw [hK] at q; cases q
    · rw [hK] at q2
      have := (Prod.mk.inj q2).1
      omega
  · refine m_cell_congr rfl rfl rfl (hq _ ?_) (hP.2 d (by omega) hd2)
    rw [g_ad_own G hd2, hP.1]
    omega
end MSM
def m_Body (l : Launch) (G : MG) (n : Nat) : Prop := ∀ (E : MEnv) (k ip : Nat) (loc : MLoc) (st : List Value) (h h0 : MH) (o : MOut) (h' : MH), m_run n E k ip loc st h = some (o, h') → k < 336 →
  ∀ (p : Program) (e : Env) (R : Room) (s : State) (m : MethodId) (args : Array Value) (below : List Frame) (meth : Method) (c : Code), m_Ctx l G E k p e R s m args meth c →
  ∀ (pc : Nat) (ls : Array Slot) (H : Heap) (locs : List Loc) (tag : Nat) (ins : Instr) (info : List Nat), m_code k ip = some (tag, pc, ins, info) → m_LV (g_ad G) (g_fv G) ls loc → loc.length = m_maxl k → m_okl h loc → (∀ v ∈ st, m_okv h v) → m_HR h → h0.1 ≤ h.1 → h0.2.1 ≤ h.2.1 → h'.1 - h0.1 ≤ R.cells → h'.2.1 - h0.2.1 ≤ R.slots → m_HP G h H → va_S (g_A G) s.heap H locs →
  W p l e R s m args below meth c H locs (h.1 - h0.1) (h.2.1 - h0.2.1) (vx_MQ below (m_Qc G o h') (m_Xc G o h') args s (h'.1 - h0.1) (h'.2.1 - h0.2.1) (g_A G)) (F0 m pc ls (st.map (g_cv G)))
theorem hpc0 : ∀ y, y < 336 → (match m_code y 0 with | some e9 => decide (e9.2.1 = 0) | none => false) = true := fun y hy => List.all_eq_true.mp (show (List.range 336).all (fun y => match m_code y 0 with | some e9 => decide (e9.2.1 = 0) | none => false) = true by decide +kernel) y (List.mem_range.mpr hy)
/-- a method's contract, from its body's run -/
theorem m_contract {l : Launch} {G : MG} {n : Nat} (hwf : m_WF) (htr : l.stackTraces = false) (hB : m_Body l G n) {E : MEnv} {y : Nat} {as : List Value} {h : MH} {o : MOut} {h1 : MH} (hr : m_run n E y 0 (m_eloc (m_maxl y) as) [] h = some (o, h1)) (hy : y < 336) (hy0 : y ≠ 0) (hok : ∀ v ∈ as, m_okv h v) (hHR : m_HR h) (hwm : m_wds as ≤ m_maxl y) : m_VM l G E y as h o h1 := by
  have hw := hwf.2 y hy hy0
  simp only [wfY, Bool.and_eq_true, decide_eq_true_eq] at hw
  obtain ⟨⟨⟨⟨⟨⟨w1, w2⟩, w3⟩, w4⟩, w5⟩, w6⟩, w7⟩ := hw
  obtain ⟨tag, pc, ins, info, hcode, hpc⟩ : ∃ tag pc ins info, m_code y 0 = some (tag, pc, ins, info) ∧ pc = 0 := by
    have := hpc0 y hy
    cases hc : m_code y 0 with
    | none => rw [hc] at this; cases this
    | some e9 =>
      obtain ⟨a1, a2, a3, a4⟩ := e9
      rw [hc] at this
      exact ⟨a1, a2, a3, a4, rfl, of_decide_eq_true this⟩
  subst hpc
  have core : ∀ (p : Program) (e : Env) (s : State) (m : MethodId) (args : Array Value) (below : List Frame) (meth : Method) (c : Code) (s₁ : State), BodyLoose p l (m_y y) (headSpec (m_ws y) (m_rm y E.1 (h1.1 - h.1) (h1.2.1 - h.2.1))) (m_bytes y) (m_maxl y) (m_rt y) e s m args below meth c s₁ → c.maxLocals = m_maxl y → c.exceptionTable.toList = tableOf (m_hh y) → m_Pc G E as h args s →
      W p l e (headSpec (m_ws y) (m_rm y E.1 (h1.1 - h.1) (h1.2.1 - h.2.1))).room s m args below meth c s.heap [] 0 0 (vx_MQ below (m_Qc G o h1) (m_Xc G o h1) args s (h1.1 - h.1) (h1.2.1 - h.2.1) (g_A G)) (entryFrame m args (m_maxl y)) := by
    intro p e s m args below meth c s₁ B hml ht hP
    obtain ⟨hargs, hHP, hE⟩ := hP
    have hf := hE.2.2.2.2.2.1.2.2
    have hts : ∀ w ∈ m_tb, w.before args s = true := fun w hw => atoms_spec (ws := m_ws y) B.pre w (List.mem_cons_of_mem _ hw)
    have ctx : m_Ctx l G E y p e (headSpec (m_ws y) (m_rm y E.1 (h1.1 - h.1) (h1.2.1 - h.2.1))).room s m args meth c := ⟨B.exec, B.bytes, B.returns, hml, findClass_of_methodNamed B.named, hts, hE, B.notSynchronized, fun q => by rw [(name_of_methodNamed B.named B.method).1]; exact q, fun _ => ht, htr, Nat.le_refl _, Nat.le_refl _⟩
    have := hB E y 0 (m_eloc (m_maxl y) as) [] h h o h1 hr hy p e _ s m args below meth c ctx 0 ((lg_sl (as.map (g_cv G)) ++ List.replicate (m_maxl y - (lg_sl (as.map (g_cv G))).length) Slot.unset).toArray) s.heap [] tag ins info hcode (m_LV_entry (g_ad G) (g_fv G) hf hwm (m_ok_nd hok)) (m_eloc_len as _ hwm (m_ok_nd hok)) (m_eloc_ok as _ hok) (fun v hv => by cases hv) hHR (Nat.le_refl _) (Nat.le_refl _) (Nat.le_refl _) (Nat.le_refl _) hHP ⟨Nat.le_refl _, fun _ _ _ => rfl, fun q hq => by cases hq⟩
    rw [hargs, lg_entry_eq]
    rw [hargs, Nat.sub_self, Nat.sub_self] at this
    exact this
  by_cases hh : m_hh y = []
  · have ecw : m_cw y = .code (m_y y) (m_bytes y) (m_maxl y) (m_rt y) := by unfold m_cw; rw [if_pos hh]
    refine vx_ofW (cc := m_bytes y) (maxL := m_maxl y) (ret := m_rt y) (ws' := m_tb) w4 (by unfold m_ws; rw [ecw]) (fun p e s m args below meth c s₁ B hml ht hP => core p e s m args below meth c s₁ B hml ?_ hP)
    rw [hh]
    cases hq : c.exceptionTable.toList with
    | nil => rfl
    | cons a b => exact (ht a (by rw [hq]; exact List.mem_cons_self)).elim
  · have ecw : m_cw y = .codeWith (m_y y) (m_bytes y) (m_maxl y) (m_rt y) (m_hh y) := by unfold m_cw; rw [if_neg hh]
    refine vx_ofWH (cc := m_bytes y) (maxL := m_maxl y) (ret := m_rt y) (hh := m_hh y) (ws' := m_tb) w4 (by unfold m_ws; rw [ecw]) (fun p e s m args below meth c s₁ B hml hP => core p e s m args below meth c s₁ B hml ?_ hP)
    exact vx_table (x := m_y y) B (atoms_spec (ws := m_ws y) B.pre _ (by unfold m_ws; rw [ecw]; exact List.mem_cons_self))

