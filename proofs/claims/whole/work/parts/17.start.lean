/-! THE CLAIM OUT OF ONE WALK OF THE LAW'S BODY. Your part is whole_start (and what it stands on); all else here is the same for every law, but numbers. -/
def R_law : String := "FeltHarnessLaw"
def lw_P (b : Addr) (xs : List Int32) (args : Array Value) (s : State) : Prop := args = #[.ref b] ∧ s.IntsAt b xs ∧ xs.length ≤ 4608 ∧ (Jvm.Cond.and given_1 narrow_1).before args s = true
def lw_Q (_ : Array Value) (s : State) (o : Outcome) (t : State) : Prop := o = .returned (some (.int 1)) ∧ Framed s o t [] 601024 7293034
def lw_Z (below : List Frame) (a : Array Value) (s : State) : State → Prop := fun t => ∃ o, t.status = .running ∧ Ended t below o ∧ lw_Q a s o t
/-- the law's own end, with 1 on the stack, nothing written that was there before, its room as the claim has it -/
theorem lw_ret {p : Program} {l : Launch} {e : Env} {s : State} {m : MethodId} {below : List Frame} {meth : Method} {c : Code} {b : Nat} (hx : p.tables.exec = Jvm.exec) (hb : c.code = code) (hr : meth.sig.returnType = ret) (hlocks : meth.locks = false) {pc : Nat} {H : Heap} {ls : Array Slot} (hdg : decode code pc = .ok (.ireturn, 1)) : W p l e room_1 s m #[Value.ref b] below meth c H [] 601024 7293034 (lw_Z below #[Value.ref b] s) (F0 m pc ls [.int 1]) := by
  intro T hT X
  obtain ⟨fs, hret, hrun, hended, hW, hframe⟩ := X.leave (v := some (.int 1)) (hlocks := hlocks) (fun h => by rw [hr] at h; cases h)
  have hmeth' : T.vm.method? m = some meth := X.method'
  refine ⟨T.setFrames fs, ?_, .returned (some (.int 1)), hrun, hended, rfl, ⟨_, rfl⟩, hW, hframe⟩
  jvm_step X.here [X.here.top, hx, hb, hdg, hmeth', hr, ret, narrow_b1]
  (try refine ⟨rfl, ?_⟩); (try refine ⟨rfl, ?_⟩)
  first | (intro acts; rw [hret _ acts rfl rfl rfl]) | rw [hret _ _ rfl rfl rfl]
  exact Steps.refl _
/-- what holds at the law's entry: the machine, the code, the tables' words (any of lw_tbl by 'hts w (by decide +kernel)'), the script of L ints xs at the cell b, what the Statement gives of the start (any of its parts by flat_of_before) -/
def lw_At (p : Program) (s : State) (m : MethodId) (meth : Method) (c : Code) (b L : Nat) (xs : Nat → Int32) : Prop :=
  p.tables.exec = Jvm.exec ∧ c.code = code ∧ meth.sig.returnType = ret ∧ c.maxLocals = 8 ∧ s.vm.findClass R_law = some m.cls ∧ (∀ w ∈ lw_tbl, w.before #[Value.ref b] s = true) ∧ va_X b L xs s s.heap ∧ b < s.heap.size ∧ meth.locks = false ∧ (Jvm.Cond.and given_1 narrow_1).before #[Value.ref b] s = true
/-! ===== the law's entry: what the mini machine's runs ask of the start ===== -/
def m_h0 : MH := (0, 0, fun _ _ => none, fun _ _ => 0, fun _ _ => 0)
theorem zm_first : ∃ tag ins info, m_code 0 0 = some (tag, 0, ins, info) := ⟨_, _, _, rfl⟩
theorem zm_lt6 (P : Nat → Prop) (h : P 0 ∧ P 1 ∧ P 2 ∧ P 3 ∧ P 4 ∧ P 5) : ∀ i, i < 6 → P i
  | 0, _ => h.1
  | 1, _ => h.2.1
  | 2, _ => h.2.2.1
  | 3, _ => h.2.2.2.1
  | 4, _ => h.2.2.2.2.1
  | 5, _ => h.2.2.2.2.2
  | i + 6, hi => absurd hi (by omega)
theorem zm_in6 (f : Nat → Cond) (h : (List.range 6).all (fun i => decide (f i ∈ flatC narrow_1)) = true) (i : Nat) (hi : i < 6) : f i ∈ flatC narrow_1 := of_decide_eq_true (List.all_eq_true.mp h i (List.mem_range.mpr hi))
theorem zm_s_ex : (List.range 6).all (fun i => decide (Cond.exactly (.string (m_so i) (m_si i)) "java/lang/String" ∈ flatC narrow_1)) = true := by decide +kernel
theorem zm_s_co : (List.range 6).all (fun i => decide (Cond.eq (.field (.string (m_so i) (m_si i)) "java/lang/String" "coder" "B") (.int 0) ∈ flatC narrow_1)) = true := by decide +kernel
theorem zm_s_ar : (List.range 6).all (fun i => decide (Cond.arrayOf (.field (.string (m_so i) (m_si i)) "java/lang/String" "value" "[B") .byte ∈ flatC narrow_1)) = true := by decide +kernel
theorem zm_s_le : (List.range 6).all (fun i => decide (Cond.eq (.length (.field (.string (m_so i) (m_si i)) "java/lang/String" "value" "[B")) (.int (Int32.ofNat (m_sl.getD i 0))) ∈ flatC narrow_1)) = true := by decide +kernel
theorem zm_el_0 : (List.range 15).all (fun j => decide ((flatC narrow_1)[210 + j]? = some (Cond.eq (.elem (.field (.string (m_so 0) (m_si 0)) "java/lang/String" "value" "[B") (.int (Int32.ofNat j))) (.int ((m_sb.getD 0 []).getD j 0))))) = true := by decide +kernel
theorem zm_el_1 : (List.range 13).all (fun j => decide ((flatC narrow_1)[233 + j]? = some (Cond.eq (.elem (.field (.string (m_so 1) (m_si 1)) "java/lang/String" "value" "[B") (.int (Int32.ofNat j))) (.int ((m_sb.getD 1 []).getD j 0))))) = true := by decide +kernel
theorem zm_el_2 : (List.range 32).all (fun j => decide ((flatC narrow_1)[39 + j]? = some (Cond.eq (.elem (.field (.string (m_so 2) (m_si 2)) "java/lang/String" "value" "[B") (.int (Int32.ofNat j))) (.int ((m_sb.getD 2 []).getD j 0))))) = true := by decide +kernel
theorem zm_el_3 : (List.range 26).all (fun j => decide ((flatC narrow_1)[75 + j]? = some (Cond.eq (.elem (.field (.string (m_so 3) (m_si 3)) "java/lang/String" "value" "[B") (.int (Int32.ofNat j))) (.int ((m_sb.getD 3 []).getD j 0))))) = true := by decide +kernel
theorem zm_el_4 : (List.range 56).all (fun j => decide ((flatC narrow_1)[106 + j]? = some (Cond.eq (.elem (.field (.string (m_so 4) (m_si 4)) "java/lang/String" "value" "[B") (.int (Int32.ofNat j))) (.int ((m_sb.getD 4 []).getD j 0))))) = true := by decide +kernel
theorem zm_el_5 : (List.range 35).all (fun j => decide ((flatC narrow_1)[168 + j]? = some (Cond.eq (.elem (.field (.string (m_so 5) (m_si 5)) "java/lang/String" "value" "[B") (.int (Int32.ofNat j))) (.int ((m_sb.getD 5 []).getD j 0))))) = true := by decide +kernel
theorem zm_s_el (i : Nat) (hi : i < 6) : ∀ (j : Nat), j < m_sl.getD i 0 → Cond.eq (.elem (.field (.string (m_so i) (m_si i)) "java/lang/String" "value" "[B") (.int (Int32.ofNat j))) (.int ((m_sb.getD i []).getD j 0)) ∈ flatC narrow_1 := zm_lt6 (fun i => ∀ (j : Nat), j < m_sl.getD i 0 → Cond.eq (.elem (.field (.string (m_so i) (m_si i)) "java/lang/String" "value" "[B") (.int (Int32.ofNat j))) (.int ((m_sb.getD i []).getD j 0)) ∈ flatC narrow_1) ⟨fun j hj => List.mem_of_getElem? (of_decide_eq_true (List.all_eq_true.mp zm_el_0 j (List.mem_range.mpr hj))), fun j hj => List.mem_of_getElem? (of_decide_eq_true (List.all_eq_true.mp zm_el_1 j (List.mem_range.mpr hj))), fun j hj => List.mem_of_getElem? (of_decide_eq_true (List.all_eq_true.mp zm_el_2 j (List.mem_range.mpr hj))), fun j hj => List.mem_of_getElem? (of_decide_eq_true (List.all_eq_true.mp zm_el_3 j (List.mem_range.mpr hj))), fun j hj => List.mem_of_getElem? (of_decide_eq_true (List.all_eq_true.mp zm_el_4 j (List.mem_range.mpr hj))), fun j hj => List.mem_of_getElem? (of_decide_eq_true (List.all_eq_true.mp zm_el_5 j (List.mem_range.mpr hj)))⟩ i hi
theorem zm_s_ne0 : (List.range 6).all (fun i => (List.range 6).all (fun j => decide (i = j) || (decide (Cond.not (Cond.eq (.string (m_so i) (m_si i)) (.string (m_so j) (m_si j))) ∈ flatC narrow_1) || decide (Cond.not (Cond.eq (.string (m_so j) (m_si j)) (.string (m_so i) (m_si i))) ∈ flatC narrow_1)))) = true := by decide +kernel
theorem zm_s_ne {args : Array Value} {s : State} (hs : ∀ c ∈ flatC narrow_1, c.before args s = true) (i j : Nat) (hi : i < 6) (hj : j < 6) (hne : i ≠ j) : (Cond.not (Cond.eq (.string (m_so i) (m_si i)) (.string (m_so j) (m_si j)))).before args s = true ∨ (Cond.not (Cond.eq (.string (m_so j) (m_si j)) (.string (m_so i) (m_si i)))).before args s = true := by
  have h := List.all_eq_true.mp (List.all_eq_true.mp zm_s_ne0 i (List.mem_range.mpr hi)) j (List.mem_range.mpr hj)
  simp only [Bool.or_eq_true, decide_eq_true_eq] at h
  rcases h with h | h | h
  · exact absurd h hne
  · exact Or.inl (hs _ h)
  · exact Or.inr (hs _ h)
set_option maxRecDepth 100000 in
theorem zm_s_rf (i : Nat) (hi : i < 6) : Cond.stringRef (m_so i) (m_si i) (m_stx i) ∈ lw_tbl := zm_lt6 (fun i => Cond.stringRef (m_so i) (m_si i) (m_stx i) ∈ lw_tbl) ⟨List.mem_of_getElem? (i := 1108) rfl, List.mem_of_getElem? (i := 1132) rfl, List.mem_of_getElem? (i := 782) rfl, List.mem_of_getElem? (i := 829) rfl, List.mem_of_getElem? (i := 972) rfl, List.mem_of_getElem? (i := 1000) rfl⟩ i hi
theorem m_n_fmt : Cond.isRef (.static "jdk/internal/util/Preconditions" "SIOOBE_FORMATTER" "Ljava/util/function/BiFunction;") ∈ flatC narrow_1 := by decide +kernel
theorem m_n_cs : Cond.eq (.static "java/lang/String" "COMPACT_STRINGS" "Z") (.int 1) ∈ flatC narrow_1 := by decide +kernel
theorem m_n_us : Cond.isRef (.static Bundle.tN "UNASSIGNED_STACK" Bundle.steD) ∈ flatC narrow_1 := by decide +kernel
theorem m_n_ss : Cond.isRef (.static Bundle.tN "SUPPRESSED_SENTINEL" Bundle.listD) ∈ flatC narrow_1 := by decide +kernel
theorem m_n_nc0 : Cond.not (.castable "java/util/NoSuchElementException" "java/lang/IllegalArgumentException") ∈ flatC narrow_1 := by decide +kernel
theorem m_n_nc1 : Cond.not (.castable "java/lang/IllegalArgumentException" "java/util/NoSuchElementException") ∈ flatC narrow_1 := by decide +kernel
set_option maxRecDepth 100000 in
theorem zm_inst_ok (ci : Nat) (h : ci < 12) {C : String} {T : u_T} {N : Nat} (hc : m_cl[ci]? = some (C, T, N)) : lw_tbl[m_inst ci]? = some (.instantiable C N) := by
  match ci, h, hc with
  | 0, _, hc => cases hc; rfl
  | 1, _, hc => cases hc; rfl
  | 2, _, hc => cases hc; rfl
  | 3, _, hc => cases hc; rfl
  | 4, _, hc => cases hc; rfl
  | 5, _, hc => cases hc; rfl
  | 6, _, hc => cases hc; rfl
  | 7, _, hc => cases hc; rfl
  | 8, _, hc => cases hc; rfl
  | 9, _, hc => cases hc; rfl
  | 10, _, hc => cases hc; rfl
  | 11, _, hc => cases hc; rfl
  | ci + 12, h, _ => exact absurd h (by omega)
def m_law_ok : Prop := ∀ (L : Nat) (xs : Nat → Int32), L ≤ 4608 → ∃ (n : Nat) (h' : MH), m_run n (16, L, xs) 0 0 (m_eloc 8 [.ref 2000000]) [] m_h0 = some (.inl (some (.int 1)), h') ∧ h'.1 ≤ 601024 ∧ h'.2.1 ≤ 7293034
theorem m_arr_of {args : Array Value} {s : State} {ty : FieldType} (h : (Cond.arrayClass ty).before args s = true) : ∃ cA, ArrOfT s cA ty ∧ s.vm.findClass ("[" ++ ty.toString) = some cA := by
  obtain ⟨cA, kA, comp, hfind, hk, hkind⟩ := Cond.arrayClass_spec h
  exact ⟨cA, fun n z => ⟨(fun k q => by cases q), kA, hk, comp, hkind⟩, hfind⟩
theorem m_arr_over {s : State} (h : va_AOA .int s) : ∃ cA, ArrOfT s cA (.array .int) ∧ s.vm.findClass "[[I" = some cA := by
  obtain ⟨comp, c, k, h1, h2, h3, h4, h5⟩ := m_over_spec h
  exact ⟨c, fun n z => ⟨(fun k q => by cases q), k, h3, comp, h4⟩, h5⟩
theorem m_cls_of {args : Array Value} {s : State} (hts : ∀ w ∈ m_tb, w.before args s = true) (ci : Nat) : ∃ (cC : ClassId) (iS : Nat → Nat), ∀ q : vw_C, m_cl[ci]? = some q → u_Kn s q.1 q.2.1 q.2.2 cC iS := by
  cases hc : m_cl[ci]? with
  | none => exact ⟨0, fun _ => 0, fun q hq => by cases hq⟩
  | some q =>
    obtain ⟨C, T, N⟩ := q
    have h12 := m_cl_lt hc
    have hi : lw_tbl[m_inst ci]? = some (.instantiable C N) := zm_inst_ok ci h12 hc
    obtain ⟨cC, iS, hk⟩ := u_known hts (m_ck hc).1 (m_tbw hts hi rfl)
    exact ⟨cC, iS, fun q hq => by cases hq; exact hk⟩
theorem m_str_of {args : Array Value} {s : State} {A : Nat → Prop} (hts : ∀ w ∈ lw_tbl, w.before args s = true) (hg : narrow_1.before args s = true) (hA : ∀ a : Nat, a < s.heap.size → ¬ A a) : ∃ adK adV : Nat → Nat, (∀ i, i < 6 → vk_R (m_so i) (m_si i) (m_stx i) (adK i) s) ∧ vk_S 6 m_sl m_sb adK adV A s s.heap := by
  have hs := flat_of_before _ hg
  obtain ⟨adK, adV, h1, h2⟩ := vk_Sof (args := args) (s := s) (N := 6) (tm := fun i => .string (m_so i) (m_si i)) (len := m_sl) (byt := m_sb) (A := A) (zm_lt6 (fun i => m_sl.getD i 0 < 2 ^ 31) (by decide))
    (fun i hi => hs _ (zm_in6 (fun i => Cond.exactly (.string (m_so i) (m_si i)) "java/lang/String") zm_s_ex i hi))
    (fun i hi => hs _ (zm_in6 (fun i => Cond.eq (.field (.string (m_so i) (m_si i)) "java/lang/String" "coder" "B") (.int 0)) zm_s_co i hi))
    (fun i hi => hs _ (zm_in6 (fun i => Cond.arrayOf (.field (.string (m_so i) (m_si i)) "java/lang/String" "value" "[B") .byte) zm_s_ar i hi))
    (fun i hi => hs _ (zm_in6 (fun i => Cond.eq (.length (.field (.string (m_so i) (m_si i)) "java/lang/String" "value" "[B")) (.int (Int32.ofNat (m_sl.getD i 0)))) zm_s_le i hi))
    (fun i hi j hj => hs _ (zm_s_el i hi j hj))
    (fun i j hi hj hne => zm_s_ne hs i j hi hj hne) hA
  exact ⟨adK, adV, fun i hi => vk_R.of (hts _ (zm_s_rf i hi)) (h2 i hi), h1⟩

set_option maxRecDepth 100000 in
theorem m_env0 {s : State} {b L : Nat} {xs : Nat → Int32} (hts : ∀ w ∈ lw_tbl, w.before #[Value.ref b] s = true) (hX : va_X b L xs s s.heap) (hb : b < s.heap.size) (hg : narrow_1.before #[Value.ref b] s = true) (d : Nat) : ∃ G : MG, G.1 = s.heap.size ∧ G.2.2.2.2.2.2.1 = b ∧ m_Env G (d, L, xs) s s.heap := by
  have hs := flat_of_before _ hg
  have htm : ∀ w ∈ m_tb, w.before #[Value.ref b] s = true := fun w hw => hts w (List.mem_filter.mp hw).1
  have hA : ∀ a : Nat, a < s.heap.size → ¬ (fun q => s.heap.size ≤ q) a := fun a h q => absurd h (Nat.not_lt.mpr q)
  obtain ⟨fC, hfC⟩ := Classical.axiomOfChoice (fun ci => m_cls_of htm ci)
  obtain ⟨fS, hfS⟩ := Classical.axiomOfChoice hfC
  obtain ⟨cI, aI, bI⟩ := m_arr_of (ty := .int) (m_tbw htm (i := 208) rfl rfl)
  obtain ⟨cB, aB, bB⟩ := m_arr_of (ty := .byte) (m_tbw htm (i := 166) rfl rfl)
  obtain ⟨cJ, aJ, bJ⟩ := m_arr_of (ty := .long) (m_tbw htm (i := 1598) rfl rfl)
  have hao : va_AOA .int s := va_AOA.of (hts _ (List.mem_of_getElem? (i := 1441) rfl))
  obtain ⟨cR, aR, bR⟩ := m_arr_over hao
  obtain ⟨adK, adV, hR, hV⟩ := m_str_of (A := fun q => s.heap.size ≤ q) hts hg hA
  obtain ⟨v, hv, hvr⟩ := Cond.isRef_spec (show (Cond.isRef (.static "jdk/internal/util/Preconditions" "SIOOBE_FORMATTER" "Ljava/util/function/BiFunction;")).holds #[Value.ref b] s none s [] = true from hs _ m_n_fmt)
  have hc1 : v.category = 1 := by
    cases v <;> first | rfl | cases hvr
  have hcs := Cond.eq_int (n := 1) (show (Cond.eq (.static "java/lang/String" "COMPACT_STRINGS" "Z") (.int 1)).holds #[Value.ref b] s none s [] = true from hs _ m_n_cs) rfl
  refine ⟨(s.heap.size, fC, fS, (cI, cB, cJ, cR), adK, adV, b, v), rfl, rfl, fun ci q hq => hfS ci q hq, ⟨⟨aI, bI⟩, ⟨aB, bB⟩, ⟨aJ, bJ⟩, ⟨aR, bR⟩, hao⟩, fun w hw => ?_, ⟨hR, hV⟩, ⟨?_, ?_⟩, ⟨?_, ?_, hc1⟩, ⟨hX, hb, hb⟩, va_Nc.of (hs _ m_n_nc0), va_Nc.of (hs _ m_n_nc1)⟩
  · have h9 := List.mem_filter.mp hw
    have h8 := hts w h9.1
    have h7 : w.onTables = true := by
      have h6 := h9.2
      cases w <;> first | (simp [m_isN] at h6; done) | rfl
    exact va_tabs h7 rfl h8
  · exact vx_Zqof (hts _ (List.mem_of_getElem? (i := 769) rfl)) (hts _ (List.mem_of_getElem? (i := 112) rfl)) (hs _ m_n_us) hA
  · exact vx_Zqof (hts _ (List.mem_of_getElem? (i := 771) rfl)) (hts _ (List.mem_of_getElem? (i := 112) rfl)) (hs _ m_n_ss) hA
  · exact va_Zof (hts _ (List.mem_of_getElem? (i := 851) rfl)) (hts _ (List.mem_of_getElem? (i := 116) rfl)) hcs hA
  · exact va_Zof (hts _ (List.mem_of_getElem? (i := 867) rfl)) (hts _ (List.mem_of_getElem? (i := 118) rfl)) hv hA
/-- nothing that was there is written -/
theorem m_framed {s t : State} {o : Outcome} {Ls : List Loc} {mc ms : Nat} (h : FrameEnd s o t Ls mc ms) (hL : ∀ q ∈ Ls, s.heap.size ≤ q.base) (h1 : mc ≤ 601024) (h2 : ms ≤ 7293034) : Framed s o t [] 601024 7293034 := by
  obtain ⟨a1, a2, b1, b2, b3, b4, b5, b6⟩ := h
  refine ⟨a1, a2, b1, b2, Nat.le_trans b3 (Nat.add_le_add_left h1 _), b4, Nat.le_trans b5 h2, fun a c hc => ?_⟩
  obtain ⟨c', k1, k2, k3, k4⟩ := b6 a c hc
  refine ⟨c', k1, k2, k3, fun i _ => k4 i (fun hi => ?_)⟩
  have h8 := hL _ hi
  have h9 := (Array.getElem?_eq_some_iff.mp hc).1
  exact absurd h9 (Nat.not_lt.mpr h8)
theorem m_start (hwf : m_WF) (hlaw : m_law_ok) {p : Program} {e : Env} {s : State} {m : MethodId} {below : List Frame} {meth : Method} {c : Code} (l : Launch) (hflags : l.flags = flags0) {b L : Nat} {xs : Nat → Int32} (hL : L ≤ 4608) (C0 : lw_At p s m meth c b L xs) : W p l e room_1 s m #[Value.ref b] below meth c s.heap [] 0 0 (lw_Z below #[Value.ref b] s) (entryFrame m ([Value.ref b] : List Value).toArray 8) := by
  obtain ⟨hx, hcd, hr, hml, hown, hts, hX, hbl, hlk, hgv⟩ := C0
  rw [Cond.before_and, Bool.and_eq_true] at hgv
  obtain ⟨G, hG1, hG2, hE⟩ := m_env0 hts hX hbl hgv.2 16
  obtain ⟨n, h', hrun, hc1, hc2⟩ := hlaw L xs hL
  have htr : l.stackTraces = false := by
    unfold Launch.stackTraces
    rw [hflags]
    decide +kernel
  have ctx : m_Ctx l G (16, L, xs) 0 p e room_1 s m #[Value.ref b] meth c := ⟨hx, hcd, hr, hml, hown, fun w hw => hts w (List.mem_filter.mp hw).1, hE, hlk, fun q => absurd q (by decide), fun q => absurd rfl q, htr, (show m_rank 0 + 40 * 16 ≤ room_1.frames by decide +kernel), (show 64 * (m_rank 0 + 40 * 16) ≤ room_1.locals by decide +kernel)⟩
  have hf := hE.2.2.2.2.2.1.2.2
  have hok : ∀ v ∈ ([.ref 2000000] : List Value), m_okv m_h0 v := fun v hv => by
    rcases List.mem_singleton.mp hv with rfl
    exact Or.inr (by decide)
  have hmap : ([.ref 2000000] : List Value).map (g_cv G) = [.ref b] := by
    show [Value.ref (g_ad G 2000000)] = _
    unfold g_ad
    rw [if_neg (by decide), if_neg (by decide), if_neg (by decide), hG2]
  have hfirst : ∃ tag ins info, m_code 0 0 = some (tag, 0, ins, info) := zm_first
  obtain ⟨tag, ins, info, hcode⟩ := hfirst
  have := m_body (l := l) (G := G) hwf n (16, L, xs) 0 0 (m_eloc 8 [.ref 2000000]) [] m_h0 m_h0 _ h' hrun (by decide) p e room_1 s m #[Value.ref b] below meth c ctx 0 ((lg_sl (([.ref 2000000] : List Value).map (g_cv G)) ++ List.replicate (8 - (lg_sl (([.ref 2000000] : List Value).map (g_cv G))).length) Slot.unset).toArray) s.heap [] tag ins info hcode (m_LV_entry (g_ad G) (g_fv G) hf (by decide) (m_ok_nd hok)) (m_eloc_len _ _ (by decide) (m_ok_nd hok)) (m_eloc_ok _ _ hok) (fun v hv => by cases hv) (fun a b d hd => by cases hd) (Nat.le_refl _) (Nat.le_refl _) (Nat.le_trans (Nat.sub_le _ _) hc1) (Nat.le_trans (Nat.sub_le _ _) hc2) ⟨by rw [hG1]; rfl, fun a ha => absurd ha (Nat.not_lt_zero _)⟩ ⟨Nat.le_refl _, fun _ _ _ => rfl, fun q hq => by cases hq⟩
  rw [hmap, List.map_nil, ← lg_entry_eq] at this
  intro T hT X
  obtain ⟨t, a1, o, b1, b2, b3⟩ := this T hT X
  refine ⟨t, a1, o, b1, b2, ?_⟩
  rcases b3 with ⟨⟨v, hv, ho, -, -⟩, Ls, hFr, hLs⟩ | ⟨q, -, X9, ce, L9, ⟨x9, hx9, -⟩, -⟩
  · cases hv
    refine ⟨ho, m_framed hFr (fun q hq => ?_) (Nat.le_trans (Nat.sub_le _ _) hc1) (Nat.le_trans (Nat.sub_le _ _) hc2)⟩
    have := hLs q hq
    unfold g_A at this
    rw [hG1] at this
    exact this
  · cases hx9
