/-! ===== the mini machine's runs are runs of the machine ===== -/
abbrev g_cv (G : MG) : Value → Value := m_cv (g_ad G) (g_fv G)
theorem m_eloc_len : ∀ (as : List Value) (n : Nat), m_wds as ≤ n → (∀ v ∈ as, ∀ b, v ≠ .double b) → (m_eloc n as).length = n
  | [], n, _, _ => by simp [m_eloc]
  | v :: as, n, hw, hd => by
    have hw2 : v.category + m_wds as ≤ n := by simpa [m_wds] using hw
    have ih := m_eloc_len as
    cases v with
    | long x =>
      have h2 : 2 + m_wds as ≤ n := hw2
      rw [m_eloc, List.length_cons, List.length_cons, ih (n - 2) (by omega) (fun v hv => hd v (List.mem_cons_of_mem _ hv))]
      omega
    | double x => exact absurd rfl (hd _ List.mem_cons_self x)
    | _ =>
      have h2 : 1 + m_wds as ≤ n := hw2
      rw [m_eloc, List.length_cons, ih (n - 1) (by omega) (fun v hv => hd v (List.mem_cons_of_mem _ hv))]
      · omega
      · intro x hx; cases hx
theorem m_eloc_mem (ad : Nat → Nat) (fv : Value) (hf : fv.category = 1) : ∀ (as : List Value) (n off i : Nat) (w : Value), (∀ v ∈ as, ∀ b, v ≠ .double b) → (m_eloc n as)[i]? = some (some w) → (off + i, m_cv ad fv w) ∈ lv_args off (as.map (m_cv ad fv))
  | [], n, off, i, w, _, h => by
    simp only [m_eloc] at h
    have := List.mem_of_getElem? h
    have := List.eq_of_mem_replicate this
    cases this
  | v :: as, n, off, i, w, hd, h => by
    have ih := m_eloc_mem ad fv hf as
    have hd2 : ∀ v ∈ as, ∀ b, v ≠ .double b := fun v hv => hd v (List.mem_cons_of_mem _ hv)
    rw [List.map_cons, lv_args, m_cv_cat hf]
    by_cases hv : ∃ x, v = .long x
    · obtain ⟨x, rfl⟩ := hv
      rw [m_eloc] at h
      match i, h with
      | 0, h => simp at h; subst h; exact List.mem_cons_self
      | 1, h => simp at h
      | i + 2, h =>
        have h2 : (m_eloc (n - 2) as)[i]? = some (some w) := by simpa using h
        have := ih (n - 2) (off + 2) i w hd2 h2
        rw [if_pos (show (Value.long x).category = 2 from rfl)]
        rw [show off + (i + 2) = off + 2 + i by omega]
        exact List.mem_cons_of_mem _ this
    · have h2 : m_eloc n (v :: as) = some v :: m_eloc (n - 1) as := by
        cases v with
        | long x => exact absurd ⟨x, rfl⟩ hv
        | _ => rfl
      have hc : ¬ v.category = 2 := by
        cases v with
        | long x => exact absurd ⟨x, rfl⟩ hv
        | double x => exact absurd rfl (hd _ List.mem_cons_self x)
        | _ => simp [Value.category]
      rw [h2] at h
      rw [if_neg hc]
      cases i with
      | zero => simp at h; subst h; exact List.mem_cons_self
      | succ i =>
        have h3 : (m_eloc (n - 1) as)[i]? = some (some w) := by simpa using h
        have := ih (n - 1) (off + 1) i w hd2 h3
        rw [show off + (i + 1) = off + 1 + i by omega]
        exact List.mem_cons_of_mem _ this
theorem m_sl_len (ad : Nat → Nat) (fv : Value) (hf : fv.category = 1) : ∀ (as : List Value), (lg_sl (as.map (m_cv ad fv))).length = m_wds as
  | [] => rfl
  | v :: as => by
    have ih := m_sl_len ad fv hf as
    simp only [lg_sl, m_wds, List.map_cons, List.flatMap_cons, List.length_append, List.sum_cons] at ih ⊢
    rw [ih, m_cv_cat hf]
    rcases lv_cat v with q | q <;> rw [q] <;> simp
theorem m_LV_entry (ad : Nat → Nat) (fv : Value) (hf : fv.category = 1) {as : List Value} {n : Nat} (hw : m_wds as ≤ n) (hd : ∀ v ∈ as, ∀ b, v ≠ .double b) : m_LV ad fv ((lg_sl (as.map (m_cv ad fv)) ++ List.replicate (n - (lg_sl (as.map (m_cv ad fv))).length) Slot.unset).toArray) (m_eloc n as) := by
  have h1 := lv_entry (as.map (m_cv ad fv)) (n := n) (by rw [m_sl_len ad fv hf]; exact hw)
  refine ⟨by rw [m_eloc_len as n hw hd]; exact h1.1, h1.2.1, fun i v hv => ?_⟩
  have := m_eloc_mem ad fv hf as n 0 i v hd hv
  rw [Nat.zero_add] at this
  exact h1.2.2 _ this
theorem m_eloc_ok {h : MH} : ∀ (as : List Value) (n : Nat), (∀ v ∈ as, m_okv h v) → m_okl h (m_eloc n as)
  | [], n, _ => by
    intro v hv
    simp only [m_eloc] at hv
    cases List.eq_of_mem_replicate hv
  | v :: as, n, k => by
    have ih := m_eloc_ok (h := h) as
    have k2 : ∀ v ∈ as, m_okv h v := fun v hv => k v (List.mem_cons_of_mem _ hv)
    intro w hw
    by_cases hv : ∃ x, v = .long x
    · obtain ⟨x, rfl⟩ := hv
      simp only [m_eloc, List.mem_cons] at hw
      rcases hw with hw | hw | hw
      · cases hw; trivial
      · cases hw
      · exact ih (n - 2) k2 w hw
    · have h2 : m_eloc n (v :: as) = some v :: m_eloc (n - 1) as := by
        cases v with
        | long x => exact absurd ⟨x, rfl⟩ hv
        | _ => rfl
      rw [h2, List.mem_cons] at hw
      rcases hw with hw | hw
      · cases hw; exact k v List.mem_cons_self
      · exact ih (n - 1) k2 w hw
theorem m_ok_nd {h : MH} {as : List Value} (k : ∀ v ∈ as, m_okv h v) : ∀ v ∈ as, ∀ b, v ≠ .double b := fun v hv b e => by
  subst e; exact k _ hv
theorem m_call_spec {E E' : MEnv} {info : List Nat} {st as rest : List Value} {y : Nat} (hp : m_call E info st = some (y, as, rest, E')) : ∃ n rc kind w ci inf, info = y :: n :: rc :: kind :: w :: ci :: inf ∧ n ≤ st.length ∧ as = (st.take n).reverse ∧ rest = st.drop n ∧ m_wds rest ≤ 8 ∧ m_wds as ≤ m_maxl y ∧ m_rcv kind ci as = true ∧ ((rc = 0 ∧ E' = E) ∨ (rc ≠ 0 ∧ E.1 = E'.1 + 1 ∧ E'.2 = E.2)) := by
  unfold m_call at hp
  split at hp
  · rename_i y' n rc kind w ci inf
    split at hp
    · rename_i hc
      obtain ⟨h1, h2, h3, h4⟩ := hc
      by_cases hr : rc = 0
      · rw [if_pos hr] at hp
        cases hp
        exact ⟨n, rc, kind, w, ci, inf, rfl, h1, rfl, rfl, h2, h3, h4, Or.inl ⟨hr, rfl⟩⟩
      · rw [if_neg hr] at hp
        split at hp
        · cases hp
        · rename_i d hd
          cases hp
          exact ⟨n, rc, kind, w, ci, inf, rfl, h1, rfl, rfl, h2, h3, h4, Or.inr ⟨hr, hd, rfl⟩⟩
    · cases hp
  · cases hp
theorem m_ret_ok {h : MH} {k : Nat} {ins : Instr} {st : List Value} {v : Option Value} (hp : m_ret k ins st = some v) : ∀ w ∈ v.toList, m_okv h w := by
  unfold m_ret at hp
  split at hp
  · split at hp
    · cases hp; simp [m_okv]
    · split at hp
      · cases hp; simp [m_okv]
      · cases hp
    · split at hp
      · cases hp; simp [m_okv]
      · cases hp
    · split at hp
      · cases hp; simp [m_okv]
      · cases hp
    · cases hp
  · split at hp
    · cases hp; simp [m_okv]
    · cases hp
  · split at hp
    · cases hp; simp
    · cases hp
  · cases hp
theorem m_jump_ok {h : MH} {ins : Instr} {info : List Nat} {ip ip' : Nat} {st st' : List Value} (hp : m_jump ins info ip st = some (ip', st')) (k : ∀ v ∈ st, m_okv h v) : ∀ v ∈ st', m_okv h v := by
  unfold m_jump at hp
  split at hp <;> first
    | (split at hp
       · cases hp
         first | exact k | exact m_oks_tl k
       · cases hp)
    | (unfold j_1 at hp
       split at hp
       · cases hp; exact m_oks_tl k
       · cases hp)
    | (unfold j_2 at hp
       split at hp
       · cases hp; exact m_oks_tl (m_oks_tl k)
       · cases hp)
    | cases hp
theorem m_math_ok {h : MH} {info : List Nat} {st st' : List Value} (hp : m_math info st = some st') (k : ∀ v ∈ st, m_okv h v) : ∀ v ∈ st', m_okv h v := by
  unfold m_math at hp
  split at hp
  · cases hp; exact m_oks_cons trivial (m_oks_tl (m_oks_tl k))
  · cases hp; exact m_oks_cons trivial (m_oks_tl (m_oks_tl k))
  · cases hp; exact m_oks_cons trivial (m_oks_tl k)
  · cases hp
set_option maxHeartbeats 1000000 in
theorem m_run_ok : ∀ (n : Nat) (E : MEnv) (k ip : Nat) (loc : MLoc) (st : List Value) (h : MH) (o : MOut) (h' : MH), m_run n E k ip loc st h = some (o, h') → m_okl h loc → (∀ v ∈ st, m_okv h v) → m_HR h → h.1 ≤ h'.1 ∧ h.2.1 ≤ h'.2.1 ∧ m_HR h' ∧ ∀ v : Option Value, o = .inl v → ∀ w ∈ v.toList, m_okv h' w
  | 0, E, k, ip, loc, st, h, o, h', hr, _, _, _ => by simp [m_run] at hr
  | n + 1, E, k, ip, loc, st, h, o, h', hr, k1, k2, k3 => by
    have IH := m_run_ok n
    unfold m_run at hr
    split at hr
    · cases hr
    · rename_i tag pc ins info hcode
      split at hr
      · split at hr
        · cases hr
        · rename_i q hq
          obtain ⟨l', s'⟩ := q
          obtain ⟨a1, a2⟩ := m_pure_ok hq k1 k2
          exact IH _ _ _ _ _ _ _ _ hr a1 a2 k3
      · split at hr
        · cases hr
        · rename_i q hq
          obtain ⟨s', h1⟩ := q
          obtain ⟨a1, a2, a3, a4⟩ := m_heap_ok hq k2 k3
          obtain ⟨b1, b2, b3, b4⟩ := IH _ _ _ _ _ _ _ _ hr (m_okl_mono a1 k1) a3 a4
          exact ⟨Nat.le_trans a1 b1, Nat.le_trans a2 b2, b3, b4⟩
      · split at hr
        · cases hr
        · rename_i q hq
          obtain ⟨i', s'⟩ := q
          exact IH _ _ _ _ _ _ _ _ hr k1 (m_jump_ok hq k2) k3
      · split at hr
        · cases hr
        · rename_i v hv
          cases hr
          refine ⟨Nat.le_refl _, Nat.le_refl _, k3, fun v2 e2 => ?_⟩
          cases e2
          exact m_ret_ok hv
      · split at hr
        · cases hr
        · rename_i q hq
          obtain ⟨y, as, rest, E'⟩ := q
          obtain ⟨n9, rc, kind, w, ci, inf, -, -, eas, erest, -, -, -, -⟩ := m_call_spec hq
          have kas : ∀ v ∈ as, m_okv h v := fun v hv => k2 v (List.mem_of_mem_take (by rw [eas] at hv; exact List.mem_reverse.mp hv))
          have krest : ∀ v ∈ rest, m_okv h v := fun v hv => k2 v (List.mem_of_mem_drop (by rw [erest] at hv; exact hv))
          split at hr
          · cases hr
          · rename_i v h1 hc
            obtain ⟨a1, a2, a3, a4⟩ := IH _ _ _ _ _ _ _ _ hc (m_eloc_ok as _ kas) (fun v hv => by cases hv) k3
            obtain ⟨b1, b2, b3, b4⟩ := IH _ _ _ _ _ _ _ _ hr (m_okl_mono a1 k1) (fun u hu => by
              rcases List.mem_append.mp hu with hu | hu
              · exact a4 v rfl u hu
              · exact m_okv_mono a1 (krest u hu)) a3
            exact ⟨Nat.le_trans a1 b1, Nat.le_trans a2 b2, b3, b4⟩
          · rename_i x h1 hc
            obtain ⟨a1, a2, a3, a4⟩ := IH _ _ _ _ _ _ _ _ hc (m_eloc_ok as _ kas) (fun v hv => by cases hv) k3
            split at hr
            · cases hr
            · split at hr
              · cases hr
                exact ⟨a1, a2, a3, fun v e => by cases e⟩
              · obtain ⟨b1, b2, b3, b4⟩ := IH _ _ _ _ _ _ _ _ hr (fun v hv => by
                  obtain ⟨z, -, hz⟩ := List.mem_map.mp hv
                  cases hz) (fun v hv => by cases hv) a3
                exact ⟨Nat.le_trans a1 b1, Nat.le_trans a2 b2, b3, b4⟩
      · split at hr
        · split at hr
          · cases hr
            have hz : h.1 ≤ h.1 + 1 := by omega
            exact ⟨hz, Nat.le_add_right _ _, fun a b d hd => m_live_mono (h := h) hz (k3 a b d hd), fun v e => by cases e⟩
          · cases hr
        · cases hr
      · split at hr
        · cases hr
        · rename_i q hq
          obtain ⟨s', h1⟩ := q
          obtain ⟨a1, a2, a3, a4⟩ := m_copy_ok hq k2 k3
          split at hr
          · obtain ⟨b1, b2, b3, b4⟩ := IH _ _ _ _ _ _ _ _ hr (m_okl_mono (Nat.le_of_eq a1) k1) a3 a4
            exact ⟨Nat.le_trans (Nat.le_of_eq a1) b1, Nat.le_trans (Nat.le_of_eq a2) b2, b3, b4⟩
          · cases hr
      · split at hr
        · split at hr
          · exact IH _ _ _ _ _ _ _ _ hr k1 (m_oks_tl k2) k3
          · cases hr
        · cases hr
      · split at hr
        · cases hr
        · rename_i st' hq
          split at hr
          · exact IH _ _ _ _ _ _ _ _ hr k1 (m_math_ok hq k2) k3
          · cases hr
      · cases hr
/-! contracts -/
def m_Pc (G : MG) (E : MEnv) (as : List Value) (h : MH) : Array Value → State → Prop := fun v U => v = (as.map (g_cv G)).toArray ∧ m_HP G h U.heap ∧ m_Env G E U U.heap
def m_Qc (G : MG) (o : MOut) (h' : MH) : Array Value → State → Outcome → State → Prop := fun _ st oc t => ∃ v : Option Value, o = .inl v ∧ oc = .returned (v.map (g_cv G)) ∧ m_HP G h' t.heap ∧ va_F (g_A G) st t
def m_Xc (G : MG) (o : MOut) (h' : MH) : String → State → State → Prop := fun X st t => ∃ x : Nat, o = .inr x ∧ x < 2 ∧ X = m_exn x ∧ m_HP G h' t.heap ∧ va_F (g_A G) st t
theorem m_blind {G : MG} {E : MEnv} {as : List Value} {h : MH} : FrameBlind (m_Pc G E as h) := fun a U g mk q => ⟨q.1, q.2.1, m_Env_moved (State.WarmedH.refl U) (Nat.le_refl _) (fun _ _ _ => rfl) q.2.2⟩
theorem m_Met_of {l : Launch} {G : MG} {y : MethodName} {ws : List Cond} {rm : Room} {Pc : Array Value → State → Prop} {v : Option Value} {h1 : MH} {mc ms : Nat} {free : Addr → Prop} (hM : vx_Met l y ws rm Pc (m_Qc G (.inl v) h1) (m_Xc G (.inl v) h1) mc ms free) : Met l y ws rm Pc (m_Qc G (.inl v) h1) mc ms free := by
  refine MetFree.mono hM (fun _ _ q => q) (fun _ _ _ _ _ q => q) (fun a st o t _ q => ?_)
  rcases q with q | ⟨q9, -, X, ce, L, ⟨x, hx, -⟩, -⟩
  · exact q
  · cases hx
section MSC
variable {p : Program} {l : Launch} {e : Env} {R : Room} {s : State} {m : MethodId} {args : Array Value} {below : List Frame} {meth : Method} {c : Code} {H : Heap} {locs : List Loc} {cells slots : Nat} {Q : State → Prop}
variable {cc : ByteArray} {pc : Nat} {ls : Array Slot} {rest : List Value} {G : MG} {E : MEnv} {h : MH} {own : String}
theorem m_keep {st₀ t T' : State} {L : List Loc} {H0 : Heap} (h0 : st₀.heap = H) (e1 : T'.heap = t.heap) (hS : va_S (g_A G) H0 H locs) (hL : ∀ q ∈ L, g_A G q.base) (hF : va_F (g_A G) st₀ t) : va_S (g_A G) H0 T'.heap (locs ++ L) := by
  obtain ⟨hz, hk⟩ := hF
  rw [h0] at hz hk
  refine ⟨Nat.le_trans hS.1 (by rw [e1]; exact hz), fun q h1 h2 => by rw [e1, hk q (Nat.lt_of_lt_of_le h1 hS.1) h2]; exact hS.2.1 q h1 h2, fun q hq => ?_⟩
  rcases List.mem_append.mp hq with h | h
  · exact hS.2.2 q h
  · exact hL q h
theorem m_call_ret {mc ms : Nat} {v : Option Value} {h1 : MH} {a : Array Value} {st0 : List Value} (hr : va_Run p l e R s m args below meth c H locs cells slots mc ms (F0 m pc ls st0) rest (m_Qc G (.inl v) h1 a) (g_A G)) (hS : va_S (g_A G) s.heap H locs)
    (kk : ∀ (H1 : Heap) (locs1 : List Loc), m_HP G h1 H1 → va_S (g_A G) s.heap H1 locs1 → W p l e R s m args below meth c H1 locs1 (cells + mc) (slots + ms) Q (F0 m (pc + 3) ls ((v.map (g_cv G)).toList ++ rest))) : W p l e R s m args below meth c H locs cells slots Q (F0 m pc ls st0) := by
  intro T hT X
  obtain ⟨v', st₀, t, T', L, h0, X', hL, e1, e2, ⟨v2, hv2, hret, hHP, hF⟩, st⟩ := hr T hT X
  cases hv2
  cases hret
  obtain ⟨t2, a1, b1⟩ := kk T'.heap (locs ++ L) (by rw [e1]; exact hHP) (m_keep h0 e1 hS hL hF) T' rfl X'
  exact ⟨t2, st t2 a1, b1⟩
theorem m_call_thr {mc ms : Nat} {x : Nat} {h1 : MH} {a : Array Value} {st0 : List Value} (hr : vx_Run p l e R s m args below meth c H locs cells slots mc ms (F0 m pc ls st0) rest (m_Qc G (.inr x) h1 a) (m_Xc G (.inr x) h1) (g_A G)) (hS : va_S (g_A G) s.heap H locs)
    (kx : ∀ (ce : Cell) (q9 : Addr) (H1 : Heap) (locs1 : List Loc), m_HP G h1 H1 → va_S (g_A G) s.heap H1 locs1 → H1[q9]? = some ce → ce.vm = .none → s.vm.findClass (m_exn x) = some ce.cls → x < 2 → vx_W p l e R s m args below meth c H1 locs1 (cells + mc) (slots + ms) Q (F0 m pc ls rest) q9) : W p l e R s m args below meth c H locs cells slots Q (F0 m pc ls st0) := by
  intro T hT X
  rcases hr T hT X with ⟨v', st₀, t, T', L, h0, X', hL, e1, e2, ⟨v2, hv2, -⟩, st⟩ | ⟨q, st₀, t, T', L, E9, ce, h0, X', hL, e1, e2, ⟨x2, hx2, hx3, rfl, hHP, hF⟩, hce, hcv, hcl, st⟩
  · cases hv2
  · cases hx2
    obtain ⟨t2, a1, b1⟩ := kx ce q T'.heap (locs ++ L) (by rw [e1]; exact hHP) (m_keep h0 e1 hS hL hF) (by rw [e1]; exact hce) hcv hcl hx3 T' rfl X'
    exact ⟨t2, st.trans a1, b1⟩
theorem m_sim_ret {Qc : Array Value → State → Outcome → State → Prop} {free : Addr → Prop} {k : Nat} {ins : Instr} {st : List Value} {v : Option Value} (hexec : p.tables.exec = Jvm.exec) (hb : c.code = cc) (hr : meth.sig.returnType = m_rt k) (hlocks : meth.locks = false) (hp : m_ret k ins st = some v) (hd : decode cc pc = .ok (ins, m_len ins))
    (hq : ∀ t : State, t.heap = H → s.WarmedH t.vm → Qc args s (.returned (v.map (g_cv G))) t) (hf : ∀ q ∈ locs, free q.base) : W p l e R s m args below meth c H locs cells slots (MQ below Qc args s cells slots free) (F0 m pc ls (st.map (g_cv G))) := by
  unfold m_ret at hp
  split at hp
  · rename_i x
    split at hp
    · rename_i ht
      cases hp
      rw [show m_rt k = some .int by unfold m_rt; rw [ht]; rfl] at hr
      exact W.iret (v := x) hexec hb hr hq hf hd hlocks
    · rename_i ht
      split at hp
      · rename_i hx
        cases hp
        rw [show m_rt k = some .boolean by unfold m_rt; rw [ht]; rfl] at hr
        refine W.zret (v := x) hexec hb hr ?_ hq hf hd hlocks
        rcases hx with rfl | rfl <;> decide
      · cases hp
    · rename_i ht
      split at hp
      · rename_i hx
        cases hp
        rw [show m_rt k = some .byte by unfold m_rt; rw [ht]; rfl] at hr
        refine W.zret (v := x) hexec hb hr ?_ hq hf hd hlocks
        rw [narrow_byte, hx]
      · cases hp
    · rename_i ht
      split at hp
      · rename_i hx
        cases hp
        rw [show m_rt k = some .char by unfold m_rt; rw [ht]; rfl] at hr
        refine W.zret (v := x) hexec hb hr ?_ hq hf hd hlocks
        have hq9 := pk_nc x
        rw [hx] at hq9
        exact hq9
      · cases hp
    · cases hp
  · rename_i x
    split at hp
    · rename_i ht
      cases hp
      rw [show m_rt k = some .long by unfold m_rt; rw [ht]; rfl] at hr
      exact W.lret (v := x) hexec hb hr hq hf hd hlocks
    · cases hp
  · split at hp
    · rename_i ht
      cases hp
      rw [show m_rt k = none by unfold m_rt; rw [ht]; rfl] at hr
      exact W.vret hexec hb hr hq hf hd hlocks
    · cases hp
  · cases hp
end MSC
