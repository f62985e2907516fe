/-! ===== new cells; copies ===== -/
section MSN
variable {p : Program} {l : Launch} {e : Env} {R : Room} {s : State} {m : MethodId} {args : Array Value} {below : List Frame} {meth : Method} {c : Code} {H : Heap} {locs : List Loc} {cells slots : Nat} {Q : State → Prop}
variable {cc : ByteArray} {pc : Nat} {ls : Array Slot} {rest : List Value} {G : MG} {E : MEnv} {h : MH} {own : String}
theorem m_HP_push {h' : MH} {H' : Heap} (n : Nat) (hP : m_HP G h H) (hz : H'.size = H.size + n) (hq : ∀ q : Nat, q < H.size → H'[q]? = H[q]?) (h1 : h'.1 = h.1 + n) (hI : ∀ d, d < h.1 → h'.2.2.2.1 d = h.2.2.2.1 d) (hR : ∀ d, d < h.1 → h'.2.2.1 d = h.2.2.1 d) (hJ : ∀ d, d < h.1 → h'.2.2.2.2 d = h.2.2.2.2 d)
    (hn : ∀ d, h.1 ≤ d → d < h.1 + n → d < 1000000 → m_cell G h' H' d) : m_HP G h' H' := by
  refine ⟨by rw [hz, hP.1, h1]; omega, fun d hd hd2 => ?_⟩
  by_cases hl : d < h.1
  · refine m_cell_congr (hI d hl) (hR d hl) (hJ d hl) (hq _ ?_) (hP.2 d hl hd2)
    rw [g_ad_own G hd2, hP.1]; omega
  · exact hn d (by omega) (by rw [← h1]; exact hd) hd2
theorem m_S_push {H' : Heap} (hS : va_S (g_A G) s.heap H locs) (hz : H.size ≤ H'.size) (hq : ∀ q : Nat, q < H.size → H'[q]? = H[q]?) : va_S (g_A G) s.heap H' locs :=
  ⟨Nat.le_trans hS.1 hz, fun q h1 h2 => by rw [hq q (Nat.lt_of_lt_of_le h1 hS.1)]; exact hS.2.1 q h1 h2, hS.2.2⟩
theorem m_arr_new (cA : ClassId) (n : Nat) (d : Value) : ({ cls := cA, slots := Array.replicate n d, vm := .none } : Cell) = arrV cA n (fun _ => d) := by
  first | exact arrV_new _ _ _ | (rw [← arrV_new])
theorem m_push_at (H : Heap) (x : Cell) : (H.push x)[H.size]? = some x := by simp
theorem m_push_lt (H : Heap) (x : Cell) {q : Nat} (hq : q < H.size) : (H.push x)[q]? = H[q]? := by
  rw [Array.getElem?_push, if_neg (Nat.ne_of_lt hq)]
theorem m_newa_int (hexec : p.tables.exec = Jvm.exec) (hb : c.code = cc) (hown : s.vm.findClass own = some m.cls) (hts : ∀ w ∈ m_tb, w.before args s = true) (hE : m_Env G E s s.heap) (hP : m_HP G h H) (hS : va_S (g_A G) s.heap H locs) {n : Int32} {r : List Value} (hn : ¬ n < 0) (hsz : h.1 < 1000000) (hle : n.toNatClampNeg ≤ 100000) (hK : m_K h.1 = (1, n.toNatClampNeg)) (hd : decode cc pc = .ok (.newarray .int, 2)) (hcells : cells + 1 ≤ R.cells) (hslots : slots + n.toNatClampNeg ≤ R.slots)
    (kk : ∀ (H' : Heap) (locs' : List Loc), m_HP G (h.1 + 1, h.2.1 + n.toNatClampNeg, h.2.2.1, m_row h.2.2.2.1 h.1 (fun _ => 0), m_row h.2.2.2.2 h.1 (fun _ => 0)) H' → va_S (g_A G) s.heap H' locs' → W p l e R s m args below meth c H' locs' (cells + 1) (slots + n.toNatClampNeg) Q (F0 m (pc + 2) ls ((Value.ref h.1 :: r).map (m_cv (g_ad G) (g_fv G))))) : W p l e R s m args below meth c H locs cells slots Q (F0 m pc ls ((Value.int n :: r).map (m_cv (g_ad G) (g_fv G)))) := by
  refine W.newa (atype := .int) (n := n) (rest := r.map (m_cv (g_ad G) (g_fv G))) hexec hb (m_tbw hts (i := 208) (by decide +kernel) rfl) rfl hd rfl hn (by show n.toNatClampNeg * _ ≤ _; simp only [newarray.typeOf, componentBytes]; omega) hcells hslots fun cA kA comp f1 f2 f3 => ?_
  have ec : cA = G.2.2.2.1.1 := Option.some.inj (f1.symm.trans hE.2.1.1.2)
  subst ec
  rw [m_arr_new]
  have hh := kk (H.push (arrV G.2.2.2.1.1 n.toNatClampNeg (fun _ => defaultValue (newarray.typeOf .int)))) locs (m_HP_push 1 hP (by simp) (fun q hq => m_push_lt H _ hq) rfl (fun d hd => m_row_ne (by omega)) (fun d hd => rfl) (fun d hd => m_row_ne (by omega)) (fun d h1 h2 h3 => ?_)) (m_S_push hS (by simp) (fun q hq => m_push_lt H _ hq))
  · have e9 : (Value.ref h.1 :: r).map (m_cv (g_ad G) (g_fv G)) = .ref H.size :: r.map (m_cv (g_ad G) (g_fv G)) := by
      rw [List.map_cons]
      congr 1
      show Value.ref (g_ad G h.1) = _
      rw [g_ad_own G hsz, hP.1]
    rw [e9] at hh
    exact hh
  · have ed : d = h.1 := by omega
    subst ed
    have ea : g_ad G h.1 = H.size := by rw [g_ad_own G hsz, hP.1]
    refine ⟨fun q => ?_, fun q => ?_, fun q => ?_, fun q => ?_, fun ci C T N q1 q2 => ?_⟩
    · rw [ea, m_push_at, vp_cell_i, hK]
      simp only [m_row_at]
      rfl
    · rw [hK] at q; simp at q
    · rw [hK] at q; simp at q
    · rw [hK] at q; simp at q
    · rw [hK] at q2
      have := (Prod.mk.inj q2).1
      omega
theorem m_newa_byte (hexec : p.tables.exec = Jvm.exec) (hb : c.code = cc) (hown : s.vm.findClass own = some m.cls) (hts : ∀ w ∈ m_tb, w.before args s = true) (hE : m_Env G E s s.heap) (hP : m_HP G h H) (hS : va_S (g_A G) s.heap H locs) {n : Int32} {r : List Value} (hn : ¬ n < 0) (hsz : h.1 < 1000000) (hle : n.toNatClampNeg ≤ 100000) (hK : m_K h.1 = (2, n.toNatClampNeg)) (hd : decode cc pc = .ok (.newarray .byte, 2)) (hcells : cells + 1 ≤ R.cells) (hslots : slots + n.toNatClampNeg ≤ R.slots)
    (kk : ∀ (H' : Heap) (locs' : List Loc), m_HP G (h.1 + 1, h.2.1 + n.toNatClampNeg, h.2.2.1, m_row h.2.2.2.1 h.1 (fun _ => 0), m_row h.2.2.2.2 h.1 (fun _ => 0)) H' → va_S (g_A G) s.heap H' locs' → W p l e R s m args below meth c H' locs' (cells + 1) (slots + n.toNatClampNeg) Q (F0 m (pc + 2) ls ((Value.ref h.1 :: r).map (m_cv (g_ad G) (g_fv G))))) : W p l e R s m args below meth c H locs cells slots Q (F0 m pc ls ((Value.int n :: r).map (m_cv (g_ad G) (g_fv G)))) := by
  refine W.newa (atype := .byte) (n := n) (rest := r.map (m_cv (g_ad G) (g_fv G))) hexec hb (m_tbw hts (i := 166) (by decide +kernel) rfl) rfl hd rfl hn (by show n.toNatClampNeg * _ ≤ _; simp only [newarray.typeOf, componentBytes]; omega) hcells hslots fun cA kA comp f1 f2 f3 => ?_
  have ec : cA = G.2.2.2.1.2.1 := Option.some.inj (f1.symm.trans hE.2.1.2.1.2)
  subst ec
  rw [m_arr_new]
  have hh := kk (H.push (arrV G.2.2.2.1.2.1 n.toNatClampNeg (fun _ => defaultValue (newarray.typeOf .byte)))) locs (m_HP_push 1 hP (by simp) (fun q hq => m_push_lt H _ hq) rfl (fun d hd => m_row_ne (by omega)) (fun d hd => rfl) (fun d hd => m_row_ne (by omega)) (fun d h1 h2 h3 => ?_)) (m_S_push hS (by simp) (fun q hq => m_push_lt H _ hq))
  · have e9 : (Value.ref h.1 :: r).map (m_cv (g_ad G) (g_fv G)) = .ref H.size :: r.map (m_cv (g_ad G) (g_fv G)) := by
      rw [List.map_cons]
      congr 1
      show Value.ref (g_ad G h.1) = _
      rw [g_ad_own G hsz, hP.1]
    rw [e9] at hh
    exact hh
  · have ed : d = h.1 := by omega
    subst ed
    have ea : g_ad G h.1 = H.size := by rw [g_ad_own G hsz, hP.1]
    refine ⟨fun q => ?_, fun q => ?_, fun q => ?_, fun q => ?_, fun ci C T N q1 q2 => ?_⟩
    · rw [hK] at q; simp at q
    · rw [ea, m_push_at, vp_cell_i, hK]
      simp only [m_row_at]
      rfl
    · rw [hK] at q; simp at q
    · rw [hK] at q; simp at q
    · rw [hK] at q2
      have := (Prod.mk.inj q2).1
      omega
theorem m_newa_long (hexec : p.tables.exec = Jvm.exec) (hb : c.code = cc) (hown : s.vm.findClass own = some m.cls) (hts : ∀ w ∈ m_tb, w.before args s = true) (hE : m_Env G E s s.heap) (hP : m_HP G h H) (hS : va_S (g_A G) s.heap H locs) {n : Int32} {r : List Value} (hn : ¬ n < 0) (hsz : h.1 < 1000000) (hle : n.toNatClampNeg ≤ 100000) (hK : m_K h.1 = (3, n.toNatClampNeg)) (hd : decode cc pc = .ok (.newarray .long, 2)) (hcells : cells + 1 ≤ R.cells) (hslots : slots + n.toNatClampNeg ≤ R.slots)
    (kk : ∀ (H' : Heap) (locs' : List Loc), m_HP G (h.1 + 1, h.2.1 + n.toNatClampNeg, h.2.2.1, m_row h.2.2.2.1 h.1 (fun _ => 0), m_row h.2.2.2.2 h.1 (fun _ => 0)) H' → va_S (g_A G) s.heap H' locs' → W p l e R s m args below meth c H' locs' (cells + 1) (slots + n.toNatClampNeg) Q (F0 m (pc + 2) ls ((Value.ref h.1 :: r).map (m_cv (g_ad G) (g_fv G))))) : W p l e R s m args below meth c H locs cells slots Q (F0 m pc ls ((Value.int n :: r).map (m_cv (g_ad G) (g_fv G)))) := by
  refine W.newa (atype := .long) (n := n) (rest := r.map (m_cv (g_ad G) (g_fv G))) hexec hb (m_tbw hts (i := 1598) (by decide +kernel) rfl) rfl hd rfl hn (by show n.toNatClampNeg * _ ≤ _; simp only [newarray.typeOf, componentBytes]; omega) hcells hslots fun cA kA comp f1 f2 f3 => ?_
  have ec : cA = G.2.2.2.1.2.2.1 := Option.some.inj (f1.symm.trans hE.2.1.2.2.1.2)
  subst ec
  rw [m_arr_new]
  have hh := kk (H.push (arrV G.2.2.2.1.2.2.1 n.toNatClampNeg (fun _ => defaultValue (newarray.typeOf .long)))) locs (m_HP_push 1 hP (by simp) (fun q hq => m_push_lt H _ hq) rfl (fun d hd => m_row_ne (by omega)) (fun d hd => rfl) (fun d hd => m_row_ne (by omega)) (fun d h1 h2 h3 => ?_)) (m_S_push hS (by simp) (fun q hq => m_push_lt H _ hq))
  · have e9 : (Value.ref h.1 :: r).map (m_cv (g_ad G) (g_fv G)) = .ref H.size :: r.map (m_cv (g_ad G) (g_fv G)) := by
      rw [List.map_cons]
      congr 1
      show Value.ref (g_ad G h.1) = _
      rw [g_ad_own G hsz, hP.1]
    rw [e9] at hh
    exact hh
  · have ed : d = h.1 := by omega
    subst ed
    have ea : g_ad G h.1 = H.size := by rw [g_ad_own G hsz, hP.1]
    refine ⟨fun q => ?_, fun q => ?_, fun q => ?_, fun q => ?_, fun ci C T N q1 q2 => ?_⟩
    · rw [hK] at q; simp at q
    · rw [hK] at q; simp at q
    · rw [ea, m_push_at, vp_cell_l, hK]
      simp only [m_row_at]
      rfl
    · rw [hK] at q; simp at q
    · rw [hK] at q2
      have := (Prod.mk.inj q2).1
      omega
theorem m_sim_newa (hexec : p.tables.exec = Jvm.exec) (hb : c.code = cc) (hown : s.vm.findClass own = some m.cls) (hts : ∀ w ∈ m_tb, w.before args s = true) (hE : m_Env G E s s.heap) (hP : m_HP G h H) (hS : va_S (g_A G) s.heap H locs) {t : ArrayType} {st st' : List Value} {h' : MH} (hp : h_newa t st h = some (st', h')) (hd : decode cc pc = .ok (.newarray t, 2)) (hcells : cells + (h'.1 - h.1) ≤ R.cells) (hslots : slots + (h'.2.1 - h.2.1) ≤ R.slots)
    (kk : ∀ (H' : Heap) (locs' : List Loc), m_HP G h' H' → va_S (g_A G) s.heap H' locs' → W p l e R s m args below meth c H' locs' (cells + (h'.1 - h.1)) (slots + (h'.2.1 - h.2.1)) Q (F0 m (pc + 2) ls (st'.map (m_cv (g_ad G) (g_fv G))))) : W p l e R s m args below meth c H locs cells slots Q (F0 m pc ls (st.map (m_cv (g_ad G) (g_fv G)))) := by
  unfold h_newa at hp
  split at hp
  · rename_i n r
    split at hp
    · rename_i hc
      obtain ⟨hn, hsz, hle, hk⟩ := hc
      obtain ⟨rfl, rfl⟩ : _ = st' ∧ _ = h' := by simpa using hp
      simp only [Nat.add_sub_cancel_left] at hcells hslots kk
      rcases hk with ⟨rfl, hK⟩ | ⟨rfl, hK⟩ | ⟨rfl, hK⟩
      · exact m_newa_int hexec hb hown hts hE hP hS hn hsz hle hK hd hcells hslots kk
      · exact m_newa_byte hexec hb hown hts hE hP hS hn hsz hle hK hd hcells hslots kk
      · exact m_newa_long hexec hb hown hts hE hP hS hn hsz hle hK hd hcells hslots kk
    · cases hp
  · cases hp
def m_inst (ci : Nat) : Nat := [250, 308, 393, 168, 210, 271, 358, 334, 383, 131, 123, 1435].getD ci 0
def m_init (ci : Nat) : Nat := [103, 105, 109, 100, 101, 104, 107, 106, 108, 99, 98, 110].getD ci 0
def wf_new (own : String) (idx : Nat) (info : List Nat) : Bool := match info with
  | ci :: w :: _ => match m_cl[ci]? with
    | some (C, T, N) => decide (lw_tbl[w]? = some (.classLink own idx C)) && decide (lw_tbl[m_inst ci]? = some (.instantiable C N)) && decide (lw_tbl[m_init ci]? = some (.initialized C))
    | none => false
  | _ => false
theorem m_sim_new (hexec : p.tables.exec = Jvm.exec) (hb : c.code = cc) (hown : s.vm.findClass own = some m.cls) (hts : ∀ w ∈ m_tb, w.before args s = true) (hE : m_Env G E s s.heap) (hP : m_HP G h H) (hS : va_S (g_A G) s.heap H locs) {idx : Nat} {info : List Nat} {st st' : List Value} {h' : MH} (hwf : wf_new own idx info = true) (hp : h_new info st h = some (st', h')) (hd : decode cc pc = .ok (.new idx, 3)) (hcells : cells + (h'.1 - h.1) ≤ R.cells) (hslots : slots + (h'.2.1 - h.2.1) ≤ R.slots)
    (kk : ∀ (H' : Heap) (locs' : List Loc), m_HP G h' H' → va_S (g_A G) s.heap H' locs' → W p l e R s m args below meth c H' locs' (cells + (h'.1 - h.1)) (slots + (h'.2.1 - h.2.1)) Q (F0 m (pc + 3) ls (st'.map (m_cv (g_ad G) (g_fv G))))) : W p l e R s m args below meth c H locs cells slots Q (F0 m pc ls (st.map (m_cv (g_ad G) (g_fv G)))) := by
  unfold h_new at hp
  split at hp
  · rename_i ci inf
    split at hp
    · rename_i hc
      obtain ⟨hsz, hK0, h12⟩ := hc
      obtain ⟨rfl, rfl⟩ : _ = st' ∧ _ = h' := by simpa using hp
      simp only [Nat.add_sub_cancel_left] at hcells hslots kk
      match inf, hwf with
      | w :: inf2, hwf =>
        simp only [wf_new] at hwf
        cases hcl : m_cl[ci]? with
        | none => rw [hcl] at hwf; simp at hwf
        | some q =>
          obtain ⟨C, T, N⟩ := q
          rw [hcl] at hwf
          simp only [Bool.and_eq_true, decide_eq_true_eq] at hwf
          obtain ⟨⟨w1, w2⟩, w3⟩ := hwf
          obtain ⟨k1, k2, k3, k4, k5, k6⟩ := m_ck hcl
          have hKn := hE.1 ci _ hcl
          obtain ⟨hS0, hfc, kC9, hkC9, hkind⟩ := id hKn
          rw [k4] at hslots kk hK0
          refine W.newcK (C := C) (n := N) (cC := G.2.1 ci) (h := H.size) hexec hb hown (m_tbw hts w1 rfl) (m_tbw hts w2 rfl) (m_tbw hts w3 rfl) rfl hd hcells hslots hfc rfl fun H' kC hkC e1 e2 e3 => ?_
          have ea : g_ad G h.1 = H.size := by rw [g_ad_own G hsz, hP.1]
          have hh := kk H' locs (m_HP_push 1 hP e2 e3 rfl (fun d hd => m_row_ne (by omega)) (fun d hd => m_row_ne (by omega)) (fun d hd => rfl) (fun d h1 h2 h3 => ?_)) (m_S_push hS (by omega) e3)
          · have e9 : (Value.ref h.1 :: st).map (m_cv (g_ad G) (g_fv G)) = .ref H.size :: st.map (m_cv (g_ad G) (g_fv G)) := by
              rw [List.map_cons]
              congr 1
              show Value.ref (g_ad G h.1) = _
              rw [ea]
            rw [e9] at hh
            exact hh
          · have ed : d = h.1 := by omega
            subst ed
            refine m_cell_obj hcl hK0 ?_
            rw [ea]
            have hb9 := u_born (m_ty ci) hts k1 hKn hkC e1 k2
            refine hb9.to (fun k hk => ?_)
            unfold m_fv
            simp only [m_row_at]
            by_cases hf : m_fi ci k = true
            · rw [if_pos hf, k5 k hk hf]
              rfl
            · rw [if_neg hf]
              rcases k6 k hk (by simpa using hf) with ⟨n9, hn9⟩ | ⟨t9, ht9⟩
              · rw [hn9]; rfl
              · rw [ht9]; rfl
      | [], hwf => simp [wf_new] at hwf
    · cases hp
  · cases hp
def wf_mna (own : String) (idx : Nat) (info : List Nat) : Bool := match info with
  | w :: _ => decide (lw_tbl[w]? = some (.classLink own idx "[[I"))
  | _ => false
set_option maxHeartbeats 2000000 in
theorem m_sim_mna (hexec : p.tables.exec = Jvm.exec) (hb : c.code = cc) (hown : s.vm.findClass own = some m.cls) (hts : ∀ w ∈ m_tb, w.before args s = true) (hE : m_Env G E s s.heap) (hP : m_HP G h H) (hS : va_S (g_A G) s.heap H locs) {idx : Nat} {info : List Nat} {st st' : List Value} {h' : MH} (hwf : wf_mna own idx info = true) (hp : h_mna st h = some (st', h')) (hd : decode cc pc = .ok (.multianewarray idx 2, 4)) (hcells : cells + (h'.1 - h.1) ≤ R.cells) (hslots : slots + (h'.2.1 - h.2.1) ≤ R.slots)
    (kk : ∀ (H' : Heap) (locs' : List Loc), m_HP G h' H' → va_S (g_A G) s.heap H' locs' → W p l e R s m args below meth c H' locs' (cells + (h'.1 - h.1)) (slots + (h'.2.1 - h.2.1)) Q (F0 m (pc + 4) ls (st'.map (m_cv (g_ad G) (g_fv G))))) : W p l e R s m args below meth c H locs cells slots Q (F0 m pc ls (st.map (m_cv (g_ad G) (g_fv G)))) := by
  unfold h_mna at hp
  split at hp
  · rename_i k n r
    split at hp
    · rename_i hc
      obtain ⟨hn, hk, hsz, hn9, hk9, hK, hrows⟩ := hc
      obtain ⟨rfl, rfl⟩ : _ = st' ∧ _ = h' := by simpa using hp
      simp only [Nat.add_sub_cancel_left] at hcells hslots kk
      have hrows2 : ∀ i, i < n.toNatClampNeg → m_K (h.1 + 1 + i) = (1, k.toNatClampNeg) := fun i hi => of_decide_eq_true (List.all_eq_true.mp hrows i (List.mem_range.mpr hi))
      match info, hwf with
      | w :: inf2, hwf =>
        have hw : lw_tbl[w]? = _ := of_decide_eq_true hwf
        intro T0 hT Xs
        obtain ⟨vm₁, cA, comp, -, fA, fC, hO, hI9, X', step⟩ := Xs.multianewarray2F (ty := .int) hexec hown (m_tbw hts hw rfl) (va_AOA.use hE.2.1.2.2.2.2) (m_tbw hts (i := 208) (by decide +kernel) rfl) (g := F0 m pc ls (.int k :: .int n :: r.map (m_cv (g_ad G) (g_fv G)))) rfl (by rw [hb]; exact hd) rfl hn hk (by omega) (by simp only [componentBytes]; omega) (by omega) rfl rfl hcells hslots
        have ec : G.2.2.2.1.1 = comp := Option.some.inj (hE.2.1.1.2.symm.trans fC)
        have eA : G.2.2.2.1.2.2.2 = cA := Option.some.inj (hE.2.1.2.2.2.1.2.symm.trans fA)
        subst ec
        subst eA
        generalize hF : Jvm.Free.Multi.fill (T0.setVm vm₁) G.2.2.2.1.2.2.2 G.2.2.2.1.1 n.toNatClampNeg k.toNatClampNeg (defaultValue .int) n.toNatClampNeg = F at X' step
        have hTh : (T0.setVm vm₁).heap = H := hT
        obtain ⟨f1, f2, -, -⟩ := Jvm.Free.Multi.fill_facts (T0.setVm vm₁) G.2.2.2.1.2.2.2 G.2.2.2.1.1 n.toNatClampNeg k.toNatClampNeg (defaultValue .int) n.toNatClampNeg
        rw [hF, hTh] at f1 f2
        have hold : ∀ x : Nat, x < H.size → F.heap[x]? = H[x]? := fun x hx => by
          have := Jvm.Free.Multi.fill_old (T0.setVm vm₁) G.2.2.2.1.2.2.2 G.2.2.2.1.1 n.toNatClampNeg k.toNatClampNeg (defaultValue .int) (a := x) (by rw [hTh]; exact hx) n.toNatClampNeg
          rw [hF, hTh] at this
          exact this
        have hrow : ∀ j : Nat, j < n.toNatClampNeg → F.heap[H.size + 1 + j]? = some (vp_cell G.2.2.2.1.1 (k.toNatClampNeg, .inl (fun _ => 0))) := fun j hj => by
          have := Jvm.Free.Multi.fill_inner (T0.setVm vm₁) G.2.2.2.1.2.2.2 G.2.2.2.1.1 n.toNatClampNeg k.toNatClampNeg (defaultValue .int) n.toNatClampNeg j hj
          rw [hF, hTh] at this
          rw [this]
          congr 1
          exact m_arr_new _ _ _
        have hout : Jvm.Free.Multi.outerC G.2.2.2.1.2.2.2 n.toNatClampNeg H.size n.toNatClampNeg = vp_cell G.2.2.2.1.2.2.2 (n.toNatClampNeg, .inr (.inr (.inr (.inr (fun i => if i < n.toNatClampNeg then some (H.size + 1 + i) else none))))) := by
          rw [vp_cell_q]
          exact vr_outer _ n.toNatClampNeg H.size n.toNatClampNeg
        rw [hout] at f2
        have ea : g_ad G h.1 = H.size := by rw [g_ad_own G (by omega), hP.1]
        have hh := kk F.heap locs (m_HP_push (1 + n.toNatClampNeg) hP (by rw [f1]; omega) hold rfl (fun d hd => ?_) (fun d hd => m_row_ne (by omega)) (fun d hd => rfl) (fun d h1 h2 h3 => ?_)) (m_S_push hS (by omega) hold)
        · obtain ⟨t2, a1, b1⟩ := hh F rfl (stand_widen X' (by omega) (by omega))
          refine ⟨t2, ?_, b1⟩
          have e9 : (Value.ref h.1 :: r).map (m_cv (g_ad G) (g_fv G)) = .ref T0.heap.size :: r.map (m_cv (g_ad G) (g_fv G)) := by
            rw [List.map_cons, hT]
            congr 1
            show Value.ref (g_ad G h.1) = _
            rw [ea]
          rw [e9] at a1
          exact step t2 a1
        · show (if h.1 ≤ d ∧ d < h.1 + 1 + n.toNatClampNeg then _ else _) = _
          rw [if_neg (by omega)]
        · by_cases ed : d = h.1
          · subst ed
            refine ⟨fun q => ?_, fun q => ?_, fun q => ?_, fun q => ?_, fun ci C T N q1 q2 => ?_⟩
            · rw [hK] at q; simp at q
            · rw [hK] at q; simp at q
            · rw [hK] at q; simp at q
            · rw [ea, f2, hK]
              simp only [m_row_at]
              congr 7
              funext j
              by_cases hj : j < n.toNatClampNeg
              · rw [if_pos hj, if_pos hj]
                show _ = some (g_ad G _)
                rw [g_ad_own G (by omega), hP.1]
                congr 1
                omega
              · rw [if_neg hj, if_neg hj]
                rfl
            · rw [hK] at q2
              have := (Prod.mk.inj q2).1
              omega
          · obtain ⟨j, rfl⟩ : ∃ j, d = h.1 + 1 + j := ⟨d - (h.1 + 1), by omega⟩
            have hj : j < n.toNatClampNeg := by omega
            have hKj := hrows2 j hj
            refine ⟨fun q => ?_, fun q => ?_, fun q => ?_, fun q => ?_, fun ci C T N q1 q2 => ?_⟩
            · rw [g_ad_own G h3, show G.1 + (h.1 + 1 + j) = H.size + 1 + j by rw [hP.1]; omega, hrow j hj, hKj]
              show _ = some (vp_cell _ (_, .inl (if _ then _ else _)))
              rw [if_pos (by omega)]
            · rw [hKj] at q; simp at q
            · rw [hKj] at q; simp at q
            · rw [hKj] at q; simp at q
            · rw [hKj] at q2
              have := (Prod.mk.inj q2).1
              omega
      | [], hwf => simp [wf_mna] at hwf
    · cases hp
  · cases hp
def wf_cpy (own : String) (idx : Nat) (info : List Nat) : Bool := match info with
  | w :: _ => decide (lw_tbl[w]? = some (.methodLink own idx arraycopyName))
  | _ => false
set_option maxHeartbeats 2000000 in
theorem m_sim_copy (hexec : p.tables.exec = Jvm.exec) (hb : c.code = cc) (hown : s.vm.findClass own = some m.cls) (hts : ∀ w ∈ m_tb, w.before args s = true) (hE : m_Env G E s s.heap) (hP : m_HP G h H) (hS : va_S (g_A G) s.heap H locs) (hml : c.maxLocals = ls.size) {idx : Nat} {info : List Nat} {st st' : List Value} {h' : MH} (hwf : wf_cpy own idx info = true) (hp : m_copy st h = some (st', h')) (hok : ∀ v ∈ st, m_okv h v) (hd : decode cc pc = .ok (.invokestatic idx, 3)) (hframes : 1 ≤ R.frames) (hlocals : ((st'.map (m_cv (g_ad G) (g_fv G))).map fun v => v.category).sum + (nativeFrameWords "java/lang/System" "arraycopy" 5 + 11) ≤ R.locals)
    (kk : ∀ (H' : Heap) (locs' : List Loc), m_HP G h' H' → va_S (g_A G) s.heap H' locs' → W p l e R s m args below meth c H' locs' cells slots Q (F0 m (pc + 3) ls (st'.map (m_cv (g_ad G) (g_fv G))))) : W p l e R s m args below meth c H locs cells slots Q (F0 m pc ls (st.map (m_cv (g_ad G) (g_fv G)))) := by
  unfold m_copy at hp
  split at hp
  · rename_i n dp d sp x r
    split at hp
    · rename_i hc
      obtain ⟨hK0, hK1, h1, h2, h3, h4, h5⟩ := hc
      obtain ⟨rfl, rfl⟩ : _ = st' ∧ _ = h' := by simpa using hp
      match info, hwf with
      | w :: inf2, hwf =>
        have hw : lw_tbl[w]? = _ := of_decide_eq_true hwf
        have hlx : m_live h x := hok (.ref x) (by simp)
        have hld : m_live h d := hok (.ref d) (by simp)
        obtain ⟨hcx, hx⟩ := m_at hP hlx hK0 (by decide) (by decide) (by decide) (by decide)
        obtain ⟨hcd, hdl⟩ := m_at hP hld hK1 (by decide) (by decide) (by decide) (by decide)
        have hc0 := hcx.1 hK0
        have hc1 := hcd.1 hK1
        have nn : ∀ z : Int32, ¬ z < 0 → z.toInt = (z.toNatClampNeg : Int) := by
          intro z hz
          have hz0 : (0 : Int) ≤ z.toInt := by
            have := Int32.not_lt.mp hz
            simpa using Int32.le_iff_toInt_le.mp this
          show z.toInt = ((z.toInt.toNat : Nat) : Int)
          omega
        intro T0 hT X
        obtain ⟨-, k0, hk0, cm0, hkk0⟩ := hE.2.1.1.1 (m_K x).2 (fun j => .int (h.2.2.2.1 x j))
        obtain ⟨-, k1, hk1, cm1, hkk1⟩ := hE.2.1.1.1 (m_K d).2 (fun j => .int (h.2.2.2.1 d j))
        obtain ⟨vm', X', step⟩ := X.arraycopy hexec hown (m_tbw hts hw rfl) (m_tbw hts (i := 229) (by decide +kernel) rfl) (m_tbw hts (i := 228) (by decide +kernel) rfl) (m_tbw hts (i := 102) (by decide +kernel) rfl) (src := g_ad G x) (dst := g_ad G d) (cs := vp_cell G.2.2.2.1.1 ((m_K x).2, .inl (h.2.2.2.1 x))) (cd := vp_cell G.2.2.2.1.1 ((m_K d).2, .inl (h.2.2.2.1 d))) (srcPos := sp) (destPos := dp) (n := n) (by rw [hT]; exact hc0) (by rw [hT]; exact hc1)
          (fun _ h => by cases h) (fun _ h => by cases h) (fun h => by cases h) (fun h => by cases h) hk0 hk1 hkk0 hkk1 (by simp [refKind]) h1 h2 h3
          (by rw [nn sp h1, nn n h3]; show ¬ _ > ((arrV _ _ _).slots.size : Int); rw [arrV_size]; omega)
          (by rw [nn dp h2, nn n h3]; show ¬ _ > ((arrV _ _ _).slots.size : Int); rw [arrV_size]; omega)
          (fun vm₁ _ i hi => by
            have e : (vp_cell G.2.2.2.1.1 ((m_K x).2, .inl (h.2.2.2.1 x))).slots.getD (sp.toNatClampNeg + i) .null = .int (h.2.2.2.1 x (sp.toNatClampNeg + i)) := by
              rw [vp_cell_i, Array.getD_eq_getD_getElem?, arrV_read _ _ (by omega)]
              rfl
            refine ⟨?_, ?_⟩
            · rw [e]
              rfl
            · rw [e]
              exact trivial)
          (g := F0 m pc ls (.int n :: .int dp :: .ref (g_ad G d) :: .int sp :: .ref (g_ad G x) :: r.map (m_cv (g_ad G) (g_fv G)))) rfl (by rw [hml]) (rest := r.map (m_cv (g_ad G) (g_fv G))) rfl (by rw [hb]; exact hd) hframes (by show 2 * 0 + _ + _ ≤ _; omega)
        have e1 : copied (vp_cell G.2.2.2.1.1 ((m_K x).2, .inl (h.2.2.2.1 x))) (vp_cell G.2.2.2.1.1 ((m_K d).2, .inl (h.2.2.2.1 d))) sp dp n = vp_cell G.2.2.2.1.1 ((m_K d).2, .inl (va_cpy (h.2.2.2.1 x) (h.2.2.2.1 d) sp.toNatClampNeg dp.toNatClampNeg n.toNatClampNeg)) := va_copied (fun z => .int z) _ _ _ _ h4
        rw [e1] at X' step
        have hl : g_ad G d < H.size := (Array.getElem?_eq_some_iff.mp hc1).1
        have hheap : ((T0.setVm vm').setCell (g_ad G d) (vp_cell G.2.2.2.1.1 ((m_K d).2, .inl (va_cpy (h.2.2.2.1 x) (h.2.2.2.1 d) sp.toNatClampNeg dp.toNatClampNeg n.toNatClampNeg)))).heap = H.setIfInBounds (g_ad G d) (vp_cell G.2.2.2.1.1 ((m_K d).2, .inl (va_cpy (h.2.2.2.1 x) (h.2.2.2.1 d) sp.toNatClampNeg dp.toNatClampNeg n.toNatClampNeg))) := by rw [← hT]; rfl
        have oq : ∀ q : Nat, q ≠ g_ad G d → (H.setIfInBounds (g_ad G d) (vp_cell G.2.2.2.1.1 ((m_K d).2, .inl (va_cpy (h.2.2.2.1 x) (h.2.2.2.1 d) sp.toNatClampNeg dp.toNatClampNeg n.toNatClampNeg))))[q]? = H[q]? := fun q hq => by simp [Array.getElem?_setIfInBounds, Ne.symm hq]
        have hA : g_A G (g_ad G d) := by unfold g_A; rw [g_ad_own G hdl]; omega
        have hcn : m_cell G (h.1, h.2.1, h.2.2.1, m_row h.2.2.2.1 d (va_cpy (h.2.2.2.1 x) (h.2.2.2.1 d) sp.toNatClampNeg dp.toNatClampNeg n.toNatClampNeg), h.2.2.2.2) (H.setIfInBounds (g_ad G d) (vp_cell G.2.2.2.1.1 ((m_K d).2, .inl (va_cpy (h.2.2.2.1 x) (h.2.2.2.1 d) sp.toNatClampNeg dp.toNatClampNeg n.toNatClampNeg)))) d := by
          refine ⟨fun q => ?_, fun q => ?_, fun q => ?_, fun q => ?_, fun ci C T N q1 q2 => ?_⟩
          · simp only [m_row_at]
            simp [Array.getElem?_setIfInBounds, hl]
          · rw [hK1] at q; exact absurd q (by decide)
          · rw [hK1] at q; exact absurd q (by decide)
          · rw [hK1] at q; exact absurd q (by decide)
          · have h12 := m_cl_lt q1
            rw [q2] at hK1
            simp at hK1
            omega
        obtain ⟨t, a1, b1⟩ := kk _ _ (m_HP_upd hP hdl rfl (by simp) oq (fun d2 hd2 => m_row_ne hd2) (fun _ _ => rfl) (fun _ _ => rfl) (fun _ => hcn)) ⟨by simp; exact hS.1, fun q g1 g2 => by
            rw [oq q (fun e => g2 (by rw [e]; exact hA))]
            exact hS.2.1 q g1 g2, fun q hq => by
            rcases List.mem_append.mp hq with h | h
            · exact hS.2.2 q h
            · obtain ⟨z, -, hz⟩ := List.mem_map.mp h
              rw [← hz]
              exact hA⟩ _ hheap X'
        exact ⟨t, step t a1, b1⟩
      | [], hwf => simp [wf_cpy] at hwf
    · cases hp
  · cases hp
end MSN
