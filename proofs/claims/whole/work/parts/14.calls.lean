/-! ===== calls ===== -/
def m_Ctx (l : Launch) (G : MG) (E : MEnv) (k : Nat) (p : Program) (e : Env) (R : Room) (s : State) (m : MethodId) (args : Array Value) (meth : Method) (c : Code) : Prop :=
  p.tables.exec = Jvm.exec ∧ c.code = m_bytes k ∧ meth.sig.returnType = m_rt k ∧ c.maxLocals = m_maxl k ∧ s.vm.findClass (m_y k).cls = some m.cls ∧ (∀ w ∈ m_tb, w.before args s = true) ∧ m_Env G E s s.heap ∧ meth.locks = false ∧ ((m_y k).name = "<init>" → meth.name = "<init>") ∧ (k ≠ 0 → c.exceptionTable.toList = tableOf (m_hh k)) ∧ l.stackTraces = false ∧ m_rank k + 40 * E.1 ≤ R.frames ∧ 64 * (m_rank k + 40 * E.1) ≤ R.locals
theorem m_Env_E {G : MG} {E E' : MEnv} {U : State} {H : Heap} (h2 : E'.2 = E.2) (h : m_Env G E U H) : m_Env G E' U H := by
  unfold m_Env at h ⊢
  rw [h2]
  exact h
theorem m_cw_good (y : Nat) : goodWord (m_cw y) = true := by
  unfold m_cw
  split <;> rfl
section MSL
variable {p : Program} {l : Launch} {e : Env} {R : Room} {s : State} {m : MethodId} {args : Array Value} {below : List Frame} {meth : Method} {c : Code} {H : Heap} {locs : List Loc} {cells slots : Nat} {Q : State → Prop}
variable {pc : Nat} {ls : Array Slot} {G : MG} {E : MEnv} {h : MH}
theorem m_callee (hwf : m_WF) {y : Nat} (hy : y < 336) (hy0 : y ≠ 0) (hts : ∀ w ∈ m_tb, w.before args s = true) : (m_cw y ∈ m_tb) ∧ (m_cw y).before args s = true ∧ (Cond.initialized (m_y y).cls).before args s = true ∧ ((m_w y).2.2.2.2.2 = 1 → (Cond.static (m_y y)).before args s = true) ∧ ((m_w y).2.2.2.2.2 = 0 → (Cond.instanceMethod (m_y y)).before args s = true) ∧ plainName (m_y y).cls = true ∧ ((m_y y).cls ≠ "java/lang/invoke/MethodHandle" ∧ (m_y y).cls ≠ "java/lang/invoke/VarHandle") ∧ m_maxl y ≤ 45 ∧ (∀ w ∈ m_ws y, ∀ (a' : Array Value) (U : State), s.WarmedH U.vm → w.before a' U = true) := by
  have hw := hwf.2 y hy hy0
  simp only [wfY, Bool.and_eq_true, decide_eq_true_eq] at hw
  obtain ⟨⟨⟨⟨⟨⟨w1, w2⟩, w3⟩, w4⟩, w5⟩, w6⟩, w7⟩ := hw
  have hin : m_cw y ∈ m_tb := m_tb_mem w1 (m_cw_good y)
  refine ⟨hin, hts _ hin, m_tbw hts w2 rfl, fun q => ?_, fun q => ?_, w4, ⟨w5, w6⟩, w7, fun w h9 a' U hW => ?_⟩
  · rw [if_pos q] at w3
    exact m_tbw hts (of_decide_eq_true w3) rfl
  · rw [if_neg (by omega)] at w3
    exact m_tbw hts (of_decide_eq_true w3) rfl
  · have h8 : w ∈ m_tb := (List.mem_cons.mp h9).elim (fun q => by rw [q]; exact hin) id
    exact word_at hW (good_of_word (List.mem_filter.mp h8).2) (hts w h8)
theorem m_stk {st : List Value} (n : Nat) : st.map (g_cv G) = (((st.take n).reverse).map (g_cv G)).reverse ++ (st.drop n).map (g_cv G) := by
  rw [List.map_reverse, List.reverse_reverse, ← List.map_append, List.take_append_drop]
theorem m_wds_cv (hf : (g_fv G).category = 1) (st : List Value) : ((st.map (g_cv G)).map fun v => v.category).sum = m_wds st := by
  unfold m_wds
  rw [List.map_map]
  congr 1
  apply List.map_congr_left
  intro v _
  exact m_cv_cat hf v
/-- a receiver's cell -/
theorem m_rcvr (hE : m_Env G E s s.heap) (hP : m_HP G h H) (hS : va_S (g_A G) s.heap H locs) {ci b : Nat} (hl : m_live h b) (hc : (ci = 12 ∧ m_K b = (22, 2)) ∨ (ci < 12 ∧ m_K b = (10 + ci, m_nf ci))) : ∃ cellB : Cell, H[g_ad G b]? = some cellB ∧ cellB.vm.isStatics = false ∧ s.vm.findClass (m_cname ci) = some cellB.cls := by
  rcases hc with ⟨rfl, hK⟩ | ⟨h12, hK⟩
  · obtain ⟨hx2, hx3, had, had2⟩ := m_txt G hK
    rw [had]
    exact vk_recv hE.2.2.2.1.2 hx3 hS
  · cases hcl : m_cl[ci]? with
    | none =>
      have : m_cl.length ≤ ci := by simpa using hcl
      have h9 : m_cl.length = 12 := rfl
      omega
    | some q =>
      obtain ⟨C, T, N⟩ := q
      have k4 := (m_ck hcl).2.2.2.1
      rw [k4] at hK
      obtain ⟨cell, q1, q2, q3, q4⟩ := m_obj hP hl hcl hK h12
      obtain ⟨hS0, hfc, -⟩ := hE.1 ci _ hcl
      refine ⟨cell, q1, by rw [q3]; rfl, ?_⟩
      have e9 : m_cname ci = C := by
        unfold m_cname
        rw [if_neg (by omega), hcl]
      rw [e9, q2]
      exact hfc
theorem m_rcv_spec {kind ci : Nat} {as : List Value} (hk : kind = 1 ∨ kind = 4) (hci : ci ≤ 12) (hr : m_rcv kind ci as = true) : ∃ b as', as = .ref b :: as' ∧ ((ci = 12 ∧ m_K b = (22, 2)) ∨ (ci < 12 ∧ m_K b = (10 + ci, m_nf ci))) := by
  rcases hk with rfl | rfl
  · unfold m_rcv at hr
    split at hr <;> first | (rename_i h9; exact absurd h9 (by decide)) | skip
    all_goals first
      | (split at hr
         · rename_i b as'
           refine ⟨b, as', rfl, ?_⟩
           split at hr
           · rename_i hc
             exact Or.inl ⟨hc, of_decide_eq_true hr⟩
           · rename_i hc
             exact Or.inr ⟨by omega, of_decide_eq_true hr⟩
         · cases hr)
      | (exfalso; simp_all; done)
  · unfold m_rcv at hr
    split at hr <;> first | (rename_i h9; exact absurd h9 (by decide)) | skip
    all_goals first
      | (split at hr
         · rename_i b as'
           refine ⟨b, as', rfl, ?_⟩
           split at hr
           · cases hr
           · rename_i hc
             exact Or.inr ⟨by omega, of_decide_eq_true hr⟩
         · cases hr)
      | (exfalso; simp_all; done)
theorem m_rcv_ref {kind ci : Nat} {as : List Value} (hk : kind = 2 ∨ kind = 5) (hr : m_rcv kind ci as = true) : ∃ b as', as = .ref b :: as' := by
  rcases hk with rfl | rfl
  · match as, hr with
    | .ref b :: as', _ => exact ⟨b, as', rfl⟩
    | [], hr => cases hr
    | .int _ :: _, hr => cases hr
    | .long _ :: _, hr => cases hr
    | .float _ :: _, hr => cases hr
    | .double _ :: _, hr => cases hr
    | .null :: _, hr => cases hr
    | .retAddr _ :: _, hr => cases hr
  · match as, hr with
    | .ref b :: as', _ => exact ⟨b, as', rfl⟩
    | [], hr => cases hr
    | .int _ :: _, hr => cases hr
    | .long _ :: _, hr => cases hr
    | .float _ :: _, hr => cases hr
    | .double _ :: _, hr => cases hr
    | .null :: _, hr => cases hr
    | .retAddr _ :: _, hr => cases hr
abbrev m_VM (l : Launch) (G : MG) (E : MEnv) (y : Nat) (as : List Value) (h : MH) (o : MOut) (h1 : MH) : Prop := vx_Met l (m_y y) (m_ws y) (m_rm y E.1 (h1.1 - h.1) (h1.2.1 - h.2.1)) (m_Pc G E as h) (m_Qc G o h1) (m_Xc G o h1) (h1.1 - h.1) (h1.2.1 - h.2.1) (g_A G)
set_option maxHeartbeats 4000000 in
theorem m_sim_callr (hwf : m_WF) {k : Nat} (ctx : m_Ctx l G E k p e R s m args meth c) {ins : Instr} {info : List Nat} {st as rest : List Value} {y : Nat} {E' : MEnv} (hcall : m_call E info st = some (y, as, rest, E')) (hwc : wf_call k ins info = true) (hd : decode (m_bytes k) pc = .ok (ins, m_len ins)) (hok : ∀ v ∈ st, m_okv h v) (hP : m_HP G h H) (hS : va_S (g_A G) s.heap H locs) (hls : ls.size = m_maxl k)
    {v : Option Value} {h1 : MH} (hM : m_VM l G E' y as h (.inl v) h1) (hcells : cells + (h1.1 - h.1) ≤ R.cells) (hslots : slots + (h1.2.1 - h.2.1) ≤ R.slots)
    (kk : ∀ (H1 : Heap) (locs1 : List Loc), m_HP G h1 H1 → va_S (g_A G) s.heap H1 locs1 → W p l e R s m args below meth c H1 locs1 (cells + (h1.1 - h.1)) (slots + (h1.2.1 - h.2.1)) Q (F0 m (pc + 3) ls ((v.toList ++ rest).map (g_cv G)))) : W p l e R s m args below meth c H locs cells slots Q (F0 m pc ls (st.map (g_cv G))) := by
  obtain ⟨hx, hb, hrt, hml, hown, hts, hE, hlk, hini, htab, htr, hfr, hlo⟩ := ctx
  obtain ⟨n, rc, kind, w, ci, inf, rfl, hn, has, hrest, hw8, hwm, hrcv, hrec⟩ := m_call_spec hcall
  simp only [wf_call, Bool.and_eq_true, decide_eq_true_eq] at hwc
  obtain ⟨⟨⟨⟨⟨hy, hy0⟩, hpar⟩, hkn⟩, hrank⟩, hlink⟩ := hwc
  obtain ⟨c1, c2, c3, c4, c5, c6, c7, c8, c9⟩ := m_callee hwf hy hy0 hts
  have hf := hE.2.2.2.2.2.1.2.2
  have hM2 := m_Met_of hM
  have hE2 : E'.2 = E.2 := by rcases hrec with ⟨-, q⟩ | ⟨-, -, q⟩ <;> rw [q]
  have hrk : m_rank y + 40 * E'.1 + 1 ≤ m_rank k + 40 * E.1 := by
    rcases hrec with ⟨q1, q2⟩ | ⟨q1, q2, -⟩
    · rw [if_pos q1] at hrank
      have := of_decide_eq_true hrank
      rw [q2]; omega
    · rw [if_neg q1] at hrank
      have := of_decide_eq_true hrank
      omega
  have hfr2 : (m_rm y E'.1 (h1.1 - h.1) (h1.2.1 - h.2.1)).frames + 1 ≤ R.frames := by
    show m_rank y + 40 * E'.1 + 1 ≤ R.frames
    omega
  have hlo2 : 8 + (m_maxl y + 11) + (m_rm y E'.1 (h1.1 - h.1) (h1.2.1 - h.2.1)).locals ≤ R.locals := by
    show 8 + (m_maxl y + 11) + 64 * (m_rank y + 40 * E'.1) ≤ R.locals
    omega
  have hpre : ∀ U : State, U.heap = H → s.WarmedH U.vm → m_Pc G E' as h (as.map (g_cv G)).toArray U := fun U hU hW =>
    ⟨rfl, by rw [hU]; exact hP, m_Env_E hE2 (m_Env_moved hW (by rw [hU]; exact hS.1) (by rw [hU]; exact hS.2.1) hE)⟩
  have hstk : st.map (g_cv G) = (as.map (g_cv G)).reverse ++ rest.map (g_cv G) := by rw [has, hrest]; exact m_stk n
  have hlen : as.length = n := by rw [has, List.length_reverse, List.length_take]; omega
  have hW8 : 2 * (F0 m pc ls (st.map (g_cv G))).monitorRoom + ((rest.map (g_cv G)).map fun v => v.category).sum ≤ 8 := by
    rw [m_wds_cv hf]
    exact lv_room (st := rest) (m := m) (pc := pc) (ls := ls) (rest := st.map (g_cv G)) hw8
  have hS9 : CallFix p m c (m_bytes k) (m_maxl k) s args m_tb (m_y k).cls := ⟨hx, hb, hml, hown, hts⟩
  have fin : ∀ {a : Array Value}, va_Run p l e R s m args below meth c H locs cells slots (h1.1 - h.1) (h1.2.1 - h.2.1) (F0 m pc ls (st.map (g_cv G))) (rest.map (g_cv G)) (m_Qc G (.inl v) h1 a) (g_A G) → W p l e R s m args below meth c H locs cells slots Q (F0 m pc ls (st.map (g_cv G))) := by
    intro a hr
    refine m_call_ret hr hS (fun H1 locs1 q1 q2 => ?_)
    have := kk H1 locs1 q1 q2
    rw [List.map_append] at this
    rw [show (v.map (g_cv G)).toList = v.toList.map (g_cv G) by cases v <;> rfl]
    exact this
  have hpar2 : ∀ z, (if kind = 0 ∨ kind = 3 ∨ kind = 6 then n else n - 1) = z → ∀ sig, parseMethodDescriptor (m_y y).desc = some sig → z = sig.parameters.length := by
    intro z hz sig hsig
    rw [hsig] at hpar
    rw [← hz]
    exact (Option.some.inj hpar).symm
  split at hlink
  · -- 0: static
    rename_i idx
    simp only [Bool.and_eq_true, decide_eq_true_eq] at hlink
    obtain ⟨⟨l1, l2⟩, l3⟩ := hlink
    have ecw : m_cw y = .code (m_y y) (m_bytes y) (m_maxl y) (m_rt y) := by unfold m_cw; rw [if_pos l3]
    exact fin (va_runS (n := n) hS9 hM2 ⟨⟨rfl, rfl, hfr2, hlo2, c9, by rw [← ecw]; exact List.mem_cons_self, by rw [← ecw]; exact c2, c3, c7, hpar2 n (by simp), m_tbw hts l1 rfl⟩, c4 l2⟩ ⟨m_blind, hpre⟩ rfl (by rw [List.length_map]; exact hlen) hls hstk hW8 hd ⟨hcells, hslots⟩)
  · -- 3: static, nest
    rename_i idx
    simp only [Bool.and_eq_true, decide_eq_true_eq] at hlink
    obtain ⟨⟨l1, l2⟩, l3⟩ := hlink
    have ecw : m_cw y = .code (m_y y) (m_bytes y) (m_maxl y) (m_rt y) := by unfold m_cw; rw [if_pos l3]
    exact fin (va_runSN (n := n) hS9 hM2 ⟨⟨⟨rfl, rfl, hfr2, hlo2, c9, by rw [← ecw]; exact List.mem_cons_self⟩, by rw [← ecw]; exact c2, c3, c7, hpar2 n (by simp), va_Nw.use rfl (hE.2.2.1 _ (m_nest_mem l1 rfl))⟩, c4 l2, trivial⟩ ⟨m_blind, hpre⟩ rfl (by rw [List.length_map]; exact hlen) hls hstk hW8 hd ⟨hcells, hslots⟩)
  · -- 6: static, with handlers
    rename_i idx
    simp only [Bool.and_eq_true, decide_eq_true_eq] at hlink
    obtain ⟨⟨l1, l2⟩, l3⟩ := hlink
    have ecw : m_cw y = .codeWith (m_y y) (m_bytes y) (m_maxl y) (m_rt y) (m_hh y) := by unfold m_cw; rw [if_neg l3]
    exact fin (vx_runSW (n := n) hS9 hM2 ⟨⟨rfl, rfl, hfr2, hlo2, c9, by rw [← ecw]; exact List.mem_cons_self⟩, by rw [← ecw]; exact c2, c3, c7, hpar2 n (by simp), m_tbw hts l1 rfl, c4 l2⟩ ⟨m_blind, hpre⟩ rfl (by rw [List.length_map]; exact hlen) hls hstk hW8 hd ⟨hcells, hslots⟩)
  · -- 1: virtual
    rename_i idx
    simp only [Bool.and_eq_true, decide_eq_true_eq] at hlink
    obtain ⟨⟨⟨⟨⟨l1, l2⟩, l3⟩, l4⟩, l5⟩, l6⟩ := hlink
    have ecw : m_cw y = .code (m_y y) (m_bytes y) (m_maxl y) (m_rt y) := by unfold m_cw; rw [if_pos l3]
    obtain ⟨b, as', e1, hcb⟩ := m_rcv_spec (Or.inl rfl) l6 hrcv
    have hlb : m_live h b := hok (.ref b) (List.mem_of_mem_take (List.mem_reverse.mp (by rw [← has, e1]; exact List.mem_cons_self)))
    have hrv := m_rcvr hE hP hS hlb hcb
    rw [l5] at hrv
    have hn1 : as'.length = n - 1 := by rw [e1] at hlen; simp at hlen; omega
    rw [e1] at hpre hstk hM2
    simp only [List.map_cons, List.reverse_cons, List.append_assoc, List.singleton_append] at hstk
    exact fin (va_runV (n := n - 1) (C := (m_y y).cls) (As := as'.map (g_cv G)) hS9 hM2 ⟨⟨rfl, rfl, hfr2, hlo2, c9, by rw [← ecw]; exact List.mem_cons_self, by rw [← ecw]; exact c2, c3, c7, hpar2 (n - 1) (by simp), m_tbw hts l1 rfl⟩, c5 l2, m_tbw hts l4 rfl⟩ ⟨m_blind, hrv, hpre⟩ rfl (by rw [List.length_map]; exact hn1) hls hstk hW8 hd ⟨hcells, hslots⟩)
  · -- 4: virtual, nest
    rename_i idx
    simp only [Bool.and_eq_true, decide_eq_true_eq] at hlink
    obtain ⟨⟨⟨⟨⟨l1, l2⟩, l3⟩, l4⟩, l5⟩, l6⟩ := hlink
    have ecw : m_cw y = .code (m_y y) (m_bytes y) (m_maxl y) (m_rt y) := by unfold m_cw; rw [if_pos l3]
    obtain ⟨b, as', e1, hcb⟩ := m_rcv_spec (Or.inr rfl) l6 hrcv
    have hlb : m_live h b := hok (.ref b) (List.mem_of_mem_take (List.mem_reverse.mp (by rw [← has, e1]; exact List.mem_cons_self)))
    have hrv := m_rcvr hE hP hS hlb hcb
    rw [l5] at hrv
    have hn1 : as'.length = n - 1 := by rw [e1] at hlen; simp at hlen; omega
    rw [e1] at hpre hstk hM2
    simp only [List.map_cons, List.reverse_cons, List.append_assoc, List.singleton_append] at hstk
    exact fin (va_runVN (n := n - 1) (C := (m_y y).cls) (As := as'.map (g_cv G)) hS9 hM2 ⟨⟨⟨rfl, rfl, hfr2, hlo2, c9, by rw [← ecw]; exact List.mem_cons_self⟩, by rw [← ecw]; exact c2, c3, c7, hpar2 (n - 1) (by simp), va_Nw.use rfl (hE.2.2.1 _ (m_nest_mem l1 rfl))⟩, c5 l2, m_tbw hts l4 rfl⟩ ⟨m_blind, hrv, hpre⟩ rfl (by rw [List.length_map]; exact hn1) hls hstk hW8 hd ⟨hcells, hslots⟩)
  · -- 2: special
    rename_i idx
    simp only [Bool.and_eq_true, decide_eq_true_eq] at hlink
    obtain ⟨⟨⟨⟨l1, l2⟩, l3⟩, l4⟩, l5⟩ := hlink
    have ert : m_rt y = none := by unfold m_rt; rw [l5]; rfl
    have ecw : m_cw y = .code (m_y y) (m_bytes y) (m_maxl y) none := by unfold m_cw; rw [if_pos l3, ert]
    obtain ⟨b, as', e1⟩ := m_rcv_ref (Or.inl rfl) hrcv
    have hn1 : as'.length = n - 1 := by rw [e1] at hlen; simp at hlen; omega
    rw [e1] at hpre hstk hM2
    simp only [List.map_cons, List.reverse_cons, List.append_assoc, List.singleton_append] at hstk
    exact fin (va_runI (n := n - 1) (As := as'.map (g_cv G)) hS9 hM2 ⟨⟨rfl, rfl, hfr2, hlo2, c9, by rw [← ecw]; exact List.mem_cons_self, by rw [← ecw]; exact c2, c3, c7, hpar2 (n - 1) (by simp), m_tbw hts l1 rfl⟩, l4, c5 l2⟩ ⟨m_blind, hpre⟩ rfl (by rw [List.length_map]; exact hn1) hls hstk hW8 hd ⟨hcells, hslots⟩)
  · -- 5: special, nest
    rename_i idx
    simp only [Bool.and_eq_true, decide_eq_true_eq] at hlink
    obtain ⟨⟨⟨⟨l1, l2⟩, l3⟩, l4⟩, l5⟩ := hlink
    have ert : m_rt y = none := by unfold m_rt; rw [l5]; rfl
    have ecw : m_cw y = .code (m_y y) (m_bytes y) (m_maxl y) none := by unfold m_cw; rw [if_pos l3, ert]
    obtain ⟨b, as', e1⟩ := m_rcv_ref (Or.inr rfl) hrcv
    have hn1 : as'.length = n - 1 := by rw [e1] at hlen; simp at hlen; omega
    rw [e1] at hpre hstk hM2
    simp only [List.map_cons, List.reverse_cons, List.append_assoc, List.singleton_append] at hstk
    exact fin (va_runIN (n := n - 1) (As := as'.map (g_cv G)) hS9 hM2 ⟨⟨⟨rfl, rfl, hfr2, hlo2, c9, by rw [← ecw]; exact List.mem_cons_self⟩, by rw [← ecw]; exact c2, c3, c7, hpar2 (n - 1) (by simp), va_Nw.use rfl (hE.2.2.1 _ (m_nest_mem l1 rfl))⟩, l4, c5 l2⟩ ⟨m_blind, hpre⟩ rfl (by rw [List.length_map]; exact hn1) hls hstk hW8 hd ⟨hcells, hslots⟩)
  · cases hlink
/-- a call that throws: a virtual one -/
theorem m_sim_callt (hwf : m_WF) {k : Nat} (ctx : m_Ctx l G E k p e R s m args meth c) {ins : Instr} {info : List Nat} {st as rest : List Value} {y : Nat} {E' : MEnv} (hcall : m_call E info st = some (y, as, rest, E')) (hkind : info.getD 3 0 = 1) (hwc : wf_call k ins info = true) (hd : decode (m_bytes k) pc = .ok (ins, m_len ins)) (hok : ∀ v ∈ st, m_okv h v) (hP : m_HP G h H) (hS : va_S (g_A G) s.heap H locs) (hls : ls.size = m_maxl k)
    {x : Nat} {h1 : MH} (hM : m_VM l G E' y as h (.inr x) h1) (hcells : cells + (h1.1 - h.1) ≤ R.cells) (hslots : slots + (h1.2.1 - h.2.1) ≤ R.slots)
    (kx : ∀ (ce : Cell) (q9 : Addr) (H1 : Heap) (locs1 : List Loc), m_HP G h1 H1 → va_S (g_A G) s.heap H1 locs1 → H1[q9]? = some ce → ce.vm = .none → s.vm.findClass (m_exn x) = some ce.cls → x < 2 → vx_W p l e R s m args below meth c H1 locs1 (cells + (h1.1 - h.1)) (slots + (h1.2.1 - h.2.1)) Q (F0 m pc ls (rest.map (g_cv G))) q9) : W p l e R s m args below meth c H locs cells slots Q (F0 m pc ls (st.map (g_cv G))) := by
  obtain ⟨hx, hb, hrt, hml, hown, hts, hE, hlk, hini, htab, htr, hfr, hlo⟩ := ctx
  obtain ⟨n, rc, kind, w, ci, inf, rfl, hn, has, hrest, hw8, hwm, hrcv, hrec⟩ := m_call_spec hcall
  have hkd : kind = 1 := hkind
  subst hkd
  simp only [wf_call, Bool.and_eq_true, decide_eq_true_eq] at hwc
  obtain ⟨⟨⟨⟨⟨hy, hy0⟩, hpar⟩, hkn⟩, hrank⟩, hlink⟩ := hwc
  obtain ⟨c1, c2, c3, c4, c5, c6, c7, c8, c9⟩ := m_callee hwf hy hy0 hts
  have hf := hE.2.2.2.2.2.1.2.2
  have hE2 : E'.2 = E.2 := by rcases hrec with ⟨-, q⟩ | ⟨-, -, q⟩ <;> rw [q]
  have hrk : m_rank y + 40 * E'.1 + 1 ≤ m_rank k + 40 * E.1 := by
    rcases hrec with ⟨q1, q2⟩ | ⟨q1, q2, -⟩
    · rw [if_pos q1] at hrank
      have := of_decide_eq_true hrank
      rw [q2]; omega
    · rw [if_neg q1] at hrank
      have := of_decide_eq_true hrank
      omega
  have hfr2 : (m_rm y E'.1 (h1.1 - h.1) (h1.2.1 - h.2.1)).frames + 1 ≤ R.frames := by
    show m_rank y + 40 * E'.1 + 1 ≤ R.frames
    omega
  have hlo2 : 8 + (m_maxl y + 11) + (m_rm y E'.1 (h1.1 - h.1) (h1.2.1 - h.2.1)).locals ≤ R.locals := by
    show 8 + (m_maxl y + 11) + 64 * (m_rank y + 40 * E'.1) ≤ R.locals
    omega
  have hpre : ∀ U : State, U.heap = H → s.WarmedH U.vm → m_Pc G E' as h (as.map (g_cv G)).toArray U := fun U hU hW =>
    ⟨rfl, by rw [hU]; exact hP, m_Env_E hE2 (m_Env_moved hW (by rw [hU]; exact hS.1) (by rw [hU]; exact hS.2.1) hE)⟩
  have hstk : st.map (g_cv G) = (as.map (g_cv G)).reverse ++ rest.map (g_cv G) := by rw [has, hrest]; exact m_stk n
  have hlen : as.length = n := by rw [has, List.length_reverse, List.length_take]; omega
  have hW8 : 2 * (F0 m pc ls (st.map (g_cv G))).monitorRoom + ((rest.map (g_cv G)).map fun v => v.category).sum ≤ 8 := by
    rw [m_wds_cv hf]
    exact lv_room (st := rest) (m := m) (pc := pc) (ls := ls) (rest := st.map (g_cv G)) hw8
  have hS9 : CallFix p m c (m_bytes k) (m_maxl k) s args m_tb (m_y k).cls := ⟨hx, hb, hml, hown, hts⟩
  have hpar2 : ∀ sig, parseMethodDescriptor (m_y y).desc = some sig → n - 1 = sig.parameters.length := by
    intro sig hsig
    rw [hsig] at hpar
    exact (Option.some.inj hpar).symm
  split at hlink
  all_goals first
    | (rename_i h9; exact absurd h9 (by decide))
    | skip
  all_goals first
    | (rename_i idx
       simp only [Bool.and_eq_true, decide_eq_true_eq] at hlink
       obtain ⟨⟨⟨⟨⟨l1, l2⟩, l3⟩, l4⟩, l5⟩, l6⟩ := hlink
       have ecw : m_cw y = .code (m_y y) (m_bytes y) (m_maxl y) (m_rt y) := by unfold m_cw; rw [if_pos l3]
       obtain ⟨b, as', e1, hcb⟩ := m_rcv_spec (Or.inl rfl) l6 hrcv
       have hlb : m_live h b := hok (.ref b) (List.mem_of_mem_take (List.mem_reverse.mp (by rw [← has, e1]; exact List.mem_cons_self)))
       have hrv := m_rcvr hE hP hS hlb hcb
       rw [l5] at hrv
       have hn1 : as'.length = n - 1 := by rw [e1] at hlen; simp at hlen; omega
       rw [e1] at hpre hstk hM
       simp only [List.map_cons, List.reverse_cons, List.append_assoc, List.singleton_append] at hstk
       exact m_call_thr (vx_runV (n := n - 1) (C := (m_y y).cls) (As := as'.map (g_cv G)) hS9 hM ⟨⟨rfl, rfl, hfr2, hlo2, c9, by rw [← ecw]; exact List.mem_cons_self, by rw [← ecw]; exact c2, c3, c7, hpar2, m_tbw hts l1 rfl⟩, c5 l2, m_tbw hts l4 rfl⟩ ⟨m_blind, hrv, hpre⟩ rfl (by rw [List.length_map]; exact hn1) hls hstk hW8 hd ⟨hcells, hslots⟩) hS kx)
    | cases hlink
end MSL
