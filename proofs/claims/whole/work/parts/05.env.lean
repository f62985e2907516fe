/-! ===== the mini heap and the machine's heap ===== -/
/-- base; class numbers; field places; array classes (ints, bytes, longs, rows); texts; their bytes; script; the formatter's value -/
abbrev MG : Type := Nat × (Nat → ClassId) × (Nat → Nat → Nat) × (ClassId × ClassId × ClassId × ClassId) × (Nat → Nat) × (Nat → Nat) × Nat × Value
def g_A (G : MG) : Nat → Prop := fun q => G.1 ≤ q
def g_ad (G : MG) (c : Nat) : Nat := if c < 1000000 then G.1 + c else if c < 1000100 then G.2.2.2.2.1 (c - 1000000) else if c < 2000000 then G.2.2.2.2.2.1 (c - 1000100) else G.2.2.2.2.2.2.1
abbrev g_fv (G : MG) : Value := G.2.2.2.2.2.2.2
def m_fv (G : MG) (h : MH) (ci c j : Nat) : Value := if m_fi ci j = true then .int (h.2.2.2.1 c j) else va_rf ((h.2.2.1 c j).map (g_ad G))
def m_cell (G : MG) (h : MH) (H : Heap) (c : Nat) : Prop :=
  ((m_K c).1 = 1 → H[g_ad G c]? = some (vp_cell G.2.2.2.1.1 ((m_K c).2, .inl (h.2.2.2.1 c)))) ∧
  ((m_K c).1 = 2 → H[g_ad G c]? = some (vp_cell G.2.2.2.1.2.1 ((m_K c).2, .inl (h.2.2.2.1 c)))) ∧
  ((m_K c).1 = 3 → H[g_ad G c]? = some (vp_cell G.2.2.2.1.2.2.1 ((m_K c).2, .inr (.inl (h.2.2.2.2 c))))) ∧
  ((m_K c).1 = 4 → H[g_ad G c]? = some (vp_cell G.2.2.2.1.2.2.2 ((m_K c).2, .inr (.inr (.inr (.inr (fun j => (h.2.2.1 c j).map (g_ad G)))))))) ∧
  (∀ (ci : Nat) (C : String) (T : u_T) (N : Nat), m_cl[ci]? = some (C, T, N) → m_K c = (10 + ci, N) → t_OB (g_ad G c) (G.2.1 ci) N (G.2.2.1 ci) H (m_fv G h ci c))
def m_HP (G : MG) (h : MH) (H : Heap) : Prop := H.size = G.1 + h.1 ∧ ∀ c, c < h.1 → c < 1000000 → m_cell G h H c
def m_live (h : MH) (c : Nat) : Prop := (c < h.1 ∧ c < 1000000) ∨ 1000000 ≤ c
def m_okv (h : MH) (v : Value) : Prop := match v with
  | .ref c => m_live h c
  | .double _ => False
  | _ => True
def m_HR (h : MH) : Prop := ∀ c j d, h.2.2.1 c j = some d → m_live h d
theorem g_ad_own (G : MG) {c : Nat} (h : c < 1000000) : g_ad G c = G.1 + c := if_pos h
theorem m_cell_congr {G : MG} {h h' : MH} {H H' : Heap} {c : Nat} (hI : h'.2.2.2.1 c = h.2.2.2.1 c) (hR : h'.2.2.1 c = h.2.2.1 c) (hJ : h'.2.2.2.2 c = h.2.2.2.2 c) (hH : H'[g_ad G c]? = H[g_ad G c]?) (k : m_cell G h H c) : m_cell G h' H' c := by
  obtain ⟨k1, k2, k3, k4, k5⟩ := k
  refine ⟨fun q => ?_, fun q => ?_, fun q => ?_, fun q => ?_, fun ci C T N q1 q2 => ?_⟩
  · rw [hH, hI]; exact k1 q
  · rw [hH, hI]; exact k2 q
  · rw [hH, hJ]; exact k3 q
  · rw [hH, hR]; exact k4 q
  · have e : m_fv G h' ci c = m_fv G h ci c := by
      funext j
      simp only [m_fv, hI, hR]
    rw [e]
    exact (k5 ci C T N q1 q2).kept hH
/-- one cell is written -/
theorem m_HP_upd {G : MG} {h h' : MH} {H H' : Heap} {c : Nat} (k : m_HP G h H) (hc : c < 1000000) (hz : h'.1 = h.1) (hs : H'.size = H.size) (oq : ∀ q : Nat, q ≠ g_ad G c → H'[q]? = H[q]?)
    (hI : ∀ d, d ≠ c → h'.2.2.2.1 d = h.2.2.2.1 d) (hR : ∀ d, d ≠ c → h'.2.2.1 d = h.2.2.1 d) (hJ : ∀ d, d ≠ c → h'.2.2.2.2 d = h.2.2.2.2 d) (hn : c < h.1 → m_cell G h' H' c) : m_HP G h' H' := by
  refine ⟨by rw [hs, hz]; exact k.1, fun d hd hd2 => ?_⟩
  rw [hz] at hd
  by_cases e : d = c
  · subst e; exact hn hd
  · refine m_cell_congr (hI d e) (hR d e) (hJ d e) (oq _ ?_) (k.2 d hd hd2)
    rw [g_ad_own G hd2, g_ad_own G hc]
    omega
theorem m_cv_rf (G : MG) (r : Option Nat) : m_cv (g_ad G) (g_fv G) (va_rf r) = va_rf (r.map (g_ad G)) := by
  cases r <;> rfl
theorem m_K_lt {c t n : Nat} (h : m_K c = (t, n)) (ht : t ≠ 0) (h6 : t ≠ 6) (h7 : t ≠ 7) (h22 : t ≠ 22) : c < 1000000 := by
  by_cases hc : c < 537
  · omega
  · rw [m_K, if_neg hc] at h
    unfold m_K2 at h
    split at h
    · rename_i q; exact q
    · split at h
      · cases h; exact absurd rfl h22
      · split at h
        · cases h; exact absurd rfl ht
        · split at h
          · cases h; exact absurd rfl h6
          · split at h
            · cases h; exact absurd rfl h7
            · cases h; exact absurd rfl ht
theorem m_K_lt1 {c t : Nat} (h : (m_K c).1 = t) (ht : t ≠ 0) (h6 : t ≠ 6) (h7 : t ≠ 7) (h22 : t ≠ 22) : c < 1000000 := m_K_lt (n := (m_K c).2) (by rw [← h]) ht h6 h7 h22
theorem m_live_own {h : MH} {c : Nat} (hl : m_live h c) (hc : c < 1000000) : c < h.1 := by
  rcases hl with ⟨a, -⟩ | a
  · exact a
  · omega
/-! ===== what holds of every state on the way ===== -/
def m_isN (w : Cond) : Bool := match w with
  | .fieldLinkNest _ _ _ _ _ _ => true
  | .methodLinkNest _ _ _ _ => true
  | .castable _ _ => true
  | .declares _ => true
  | _ => false
def m_nest : List Cond := lw_tbl.filter m_isN
theorem m_nest_mem {i : Nat} {w : Cond} (h : lw_tbl[i]? = some w) (hg : m_isN w = true) : w ∈ m_nest := List.mem_filter.mpr ⟨List.mem_of_getElem? h, hg⟩
def m_so (i : Nat) : String := ["FeltHarness", "FeltHarness", "FeltHarness", "FeltHarness$House", "FeltHarness$Law", "FeltHarness$Plan"].getD i ""
def m_si (i : Nat) : Nat := [391, 396, 400, 61, 88, 52].getD i 0
def m_stx (i : Nat) : String := ["no such feeling", "no such stage", "an argument is out of its bounds", "feeling clash stage bears ", "pull steady tight tired place stage team day least most ", "put out draw drive home rest again "].getD i ""
def m_sl : List Nat := [15, 13, 32, 26, 56, 35]
def m_sb : List (List Int32) := [[110, 111, 32, 115, 117, 99, 104, 32, 102, 101, 101, 108, 105, 110, 103], [110, 111, 32, 115, 117, 99, 104, 32, 115, 116, 97, 103, 101], [97, 110, 32, 97, 114, 103, 117, 109, 101, 110, 116, 32, 105, 115, 32, 111, 117, 116, 32, 111, 102, 32, 105, 116, 115, 32, 98, 111, 117, 110, 100, 115], [102, 101, 101, 108, 105, 110, 103, 32, 99, 108, 97, 115, 104, 32, 115, 116, 97, 103, 101, 32, 98, 101, 97, 114, 115, 32], [112, 117, 108, 108, 32, 115, 116, 101, 97, 100, 121, 32, 116, 105, 103, 104, 116, 32, 116, 105, 114, 101, 100, 32, 112, 108, 97, 99, 101, 32, 115, 116, 97, 103, 101, 32, 116, 101, 97, 109, 32, 100, 97, 121, 32, 108, 101, 97, 115, 116, 32, 109, 111, 115, 116, 32], [112, 117, 116, 32, 111, 117, 116, 32, 100, 114, 97, 119, 32, 100, 114, 105, 118, 101, 32, 104, 111, 109, 101, 32, 114, 101, 115, 116, 32, 97, 103, 97, 105, 110, 32]]
def m_Env (G : MG) (E : MEnv) (U : State) (H : Heap) : Prop :=
  (∀ (ci : Nat) (q : vw_C), m_cl[ci]? = some q → u_Kn U q.1 q.2.1 q.2.2 (G.2.1 ci) (G.2.2.1 ci)) ∧
  ((ArrOfT U G.2.2.2.1.1 .int ∧ U.vm.findClass "[I" = some G.2.2.2.1.1) ∧ (ArrOfT U G.2.2.2.1.2.1 .byte ∧ U.vm.findClass "[B" = some G.2.2.2.1.2.1) ∧ (ArrOfT U G.2.2.2.1.2.2.1 .long ∧ U.vm.findClass "[J" = some G.2.2.2.1.2.2.1) ∧ (ArrOfT U G.2.2.2.1.2.2.2 (.array .int) ∧ U.vm.findClass "[[I" = some G.2.2.2.1.2.2.2) ∧ va_AOA .int U) ∧
  (∀ w ∈ m_nest, va_Nw w U) ∧
  ((∀ i, i < 6 → vk_R (m_so i) (m_si i) (m_stx i) (G.2.2.2.2.1 i) U) ∧ vk_S 6 m_sl m_sb G.2.2.2.2.1 G.2.2.2.2.2.1 (g_A G) U H) ∧
  (vx_Zq Bundle.tN "UNASSIGNED_STACK" Bundle.steD (g_A G) U H ∧ vx_Zq Bundle.tN "SUPPRESSED_SENTINEL" Bundle.listD (g_A G) U H) ∧
  (va_Z "java/lang/String" "COMPACT_STRINGS" "Z" (.int 1) (g_A G) U H ∧ va_Z "jdk/internal/util/Preconditions" "SIOOBE_FORMATTER" "Ljava/util/function/BiFunction;" (g_fv G) (g_A G) U H ∧ (g_fv G).category = 1) ∧
  (va_X G.2.2.2.2.2.2.1 E.2.1 E.2.2 U H ∧ G.2.2.2.2.2.2.1 < G.1 ∧ G.2.2.2.2.2.2.1 < H.size) ∧
  (va_Nc "java/util/NoSuchElementException" "java/lang/IllegalArgumentException" U ∧ va_Nc "java/lang/IllegalArgumentException" "java/util/NoSuchElementException" U)
theorem m_Nw_warm {w : Cond} (h : w ∈ m_nest) {s U : State} (hW : s.WarmedH U.vm) (hZ : va_Nw w s) : va_Nw w U := by
  have h2 := (List.mem_filter.mp h).2
  cases w <;> first | (simp [m_isN] at h2; done) | exact va_Nw.warmF hW hZ | exact va_Nw.warmM hW hZ | exact va_Nw.warmC hW hZ | exact va_Nw.warmD hW hZ
theorem m_over_spec {s : State} (h : va_AOA .int s) :
    ∃ comp c k, s.vm.findClass (FieldType.array .int).toString = some comp ∧ (s.vm.classes.findIdx? fun x => match x.kind with | .array component _ => component == comp | _ => false) = some c ∧ s.vm.classes[c]? = some k ∧ k.kind = .array comp (.array .int) ∧ s.vm.findClass ("[" ++ (FieldType.array .int).toString) = some c := by
  simp only [va_AOA, Cond.before, Cond.holds, Cond.value, beq_iff_eq] at h
  cases hc : s.vm.findClass (FieldType.array .int).toString with
  | none => simp [hc] at h
  | some comp =>
    simp only [hc, Option.bind_some, Option.bind_eq_some_iff, Option.map_eq_some_iff] at h
    obtain ⟨c, hi, k, hk, hb⟩ := h
    obtain ⟨hlt, hp, -⟩ := Array.findIdx?_eq_some_iff_getElem.mp hi
    have hkk : s.vm.classes[c] = k := (Array.getElem?_eq_some_iff.mp hk).2
    rw [hkk] at hp
    cases hkind : k.kind with
    | array component ty =>
      rw [hkind] at hb hp
      simp at hb hp
      exact ⟨comp, c, k, rfl, hi, hk, by rw [hkind, hp, hb.1], hb.2⟩
    | _ => rw [hkind] at hb; simp at hb
theorem m_AOA_moved {u U : State} (hvm : u.vm.Alike U.vm) (h : va_AOA .int u) : va_AOA .int U := by
  obtain ⟨comp, c, k, h1, h2, h3, h4, h5⟩ := m_over_spec h
  obtain ⟨k', hk', he⟩ := hvm.2.2 _ _ h3
  have hi : (U.vm.classes.findIdx? fun (x : Class) => match x.kind with | .array component _ => component == comp | _ => false) = some c := by
    have e1 := va_idx_bare U.vm comp
    have e2 := va_idx_bare u.vm comp
    have eb : U.vm.bare = u.vm.bare := by first | exact hvm.bare_eq | exact hvm.bare_eq.symm
    rw [eb] at e1
    exact (e1.symm.trans e2).trans h2
  have hkind : k'.kind = .array comp (.array .int) := by rw [he]; exact h4
  have f1 : U.vm.findClass (FieldType.array .int).toString = some comp := by rw [hvm.findClass]; exact h1
  have f2 : U.vm.findClass ("[" ++ (FieldType.array .int).toString) = some c := by rw [hvm.findClass]; exact h5
  unfold va_AOA Cond.before Cond.holds
  simp only [Cond.value]
  rw [f1, Option.bind_some]
  refine (congrArg (fun o : Option Nat => (o.bind (fun c => (U.vm.classes[c]?).map fun (k : Class) => match k.kind with | .array _ ty => decide (ty = FieldType.array .int) && decide (U.vm.findClass ("[" ++ (FieldType.array .int).toString) = some c) | _ => false) == some true)) hi).trans ?_
  simp [hk', hkind, f2]
theorem m_Nc_moved {C T : String} {u U : State} (hvm : u.vm.Alike U.vm) (h : va_Nc C T u) : va_Nc C T U := by
  first | exact va_Nc.moved hvm h | exact h.moved hvm
theorem m_Env_moved {G : MG} {E : MEnv} {s U : State} {H : Heap} (hW : s.WarmedH U.vm) (hz : s.heap.size ≤ H.size) (hq : ∀ a : Nat, a < s.heap.size → ¬ g_A G a → H[a]? = s.heap[a]?) (h : m_Env G E s s.heap) : m_Env G E U H := by
  obtain ⟨h1, ⟨⟨a1, b1⟩, ⟨a2, b2⟩, ⟨a3, b3⟩, ⟨a4, b4⟩, h2⟩, h3, ⟨h4, h5⟩, ⟨h6, h7⟩, ⟨h8, h9, h10⟩, ⟨h11, h12, h13⟩, h14, h15⟩ := h
  have hv := hW.alike
  refine ⟨fun ci q hc => u_Kn_moved hv (h1 ci q hc), ⟨⟨arrOfT_moved hv a1, by rw [hv.findClass]; exact b1⟩, ⟨arrOfT_moved hv a2, by rw [hv.findClass]; exact b2⟩, ⟨arrOfT_moved hv a3, by rw [hv.findClass]; exact b3⟩, ⟨arrOfT_moved hv a4, by rw [hv.findClass]; exact b4⟩, m_AOA_moved hv h2⟩, fun w hw => m_Nw_warm hw hW (h3 w hw), ⟨fun i hi => vk_R.warm hW (h4 i hi), (h5.moved hv).kept hq⟩, ⟨(vx_Zq.moved hv h6).kept hq, (vx_Zq.moved hv h7).kept hq⟩, ⟨(va_Z.moved hv h8).kept hq, (va_Z.moved hv h9).kept hq, h10⟩, ⟨(h11.moved hv).kept (hq _ h13 (by unfold g_A; omega)), h12, by omega⟩, m_Nc_moved hv h14, m_Nc_moved hv h15⟩
