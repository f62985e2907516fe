/-! ===== fits ===== -/
/-- the row had one been left in on a stage -/
def soR (B : II) (F n : Nat) (cd : Nat → Nat × Int32) (s f : Nat) : Nat → Int32 := if bits (upd (B 29) f (-1)) F = 0 then upd (B 29) f (-1) else drvR B F n cd (upd (B 29) f (-1)) s
/-- by which the BOOK is right -/
def rgt (B : II) (F : Nat) (r : Nat → Int32) : Prop := ∀ g, g < F → B 21 g = -1 ∨ B 21 g = r (16 + g)
theorem rgt_congr {B : II} {F : Nat} (hF : F ≤ 8) {a b : Nat → Int32} (h : ∀ j, j < 24 → a j = b j) : rgt B F a ↔ rgt B F b := by
  unfold rgt
  constructor
  · intro k g hg; rw [← h (16 + g) (by omega)]; exact k g hg
  · intro k g hg; rw [h (16 + g) (by omega)]; exact k g hg
abbrev LL : Type := Nat × (Nat → Nat × Nat)
def ftP (l : LL) (x : Nat × Nat) : LL := (l.1 + 1, fun j => if j = l.1 then x else l.2 j)
noncomputable def ftS (B : II) (F n : Nat) (cd : Nat → Nat × Int32) (s f : Nat) (l : LL) : LL := by
  classical exact if B 29 f = -1 then l else if rgt B F (soR B F n cd s f) then ftP l (s, f) else l
theorem ftS_no {B : II} {F n : Nat} {cd : Nat → Nat × Int32} {s f : Nat} {l : LL} (h : B 29 f = -1) : ftS B F n cd s f l = l := by unfold ftS; rw [if_pos h]
theorem ftS_in {B : II} {F n : Nat} {cd : Nat → Nat × Int32} {s f : Nat} {l : LL} (h : B 29 f ≠ -1) (k : rgt B F (soR B F n cd s f)) : ftS B F n cd s f l = ftP l (s, f) := by unfold ftS; rw [if_neg h, if_pos k]
theorem ftS_out {B : II} {F n : Nat} {cd : Nat → Nat × Int32} {s f : Nat} {l : LL} (h : B 29 f ≠ -1) (k : ¬ rgt B F (soR B F n cd s f)) : ftS B F n cd s f l = l := by unfold ftS; rw [if_neg h, if_neg k]
def fsV (l : LL) : Int32 := if l.1 = 0 then -1 else 10 * nI (l.2 0).1 + nI (l.2 0).2
theorem fsV_P (l : LL) (s f : Nat) : fsV (ftP l (s, f)) = if l.1 = 0 then 10 * nI s + nI f else fsV l := by
  unfold fsV ftP
  rw [if_neg (by show ¬ l.1 + 1 = 0; omega)]
  by_cases c : l.1 = 0
  · rw [if_pos c]
    show 10 * nI (if 0 = l.1 then (s, f) else l.2 0).1 + nI (if 0 = l.1 then (s, f) else l.2 0).2 = _
    rw [if_pos c.symm]
  · rw [if_neg c]
    show 10 * nI (if 0 = l.1 then (s, f) else l.2 0).1 + nI (if 0 = l.1 then (s, f) else l.2 0).2 = _
    rw [if_neg (fun z => c z.symm), if_neg c]
noncomputable def ftA (B : II) (F S n : Nat) (cd : Nat → Nat × Int32) : LL := rep (fun s l => rep (ftS B F n cd s) F 0 l) S 0 (0, fun _ => (0, 0))
/-- at most four are in a team -/
def inT (r : Nat → Int32) (f : Nat) : Bool := decide (r f ≠ -1)
theorem team4 {r : Nat → Int32} {F : Nat} (hF : F ≤ 8) (h : rowW r F) : fb_ct (inT r) F ≤ 4 := by
  classical
  have hk : ∀ k, k < fb_ct (inT r) F → ∃ i, i < F ∧ inT r i = true ∧ fb_ct (inT r) i = k := fun k hk => fb_ct_kth hk
  let idx : Nat → Nat := fun k => if h : k < fb_ct (inT r) F then Classical.choose (hk k h) else 0
  have hidx : ∀ k, k < fb_ct (inT r) F → idx k < F ∧ inT r (idx k) = true ∧ fb_ct (inT r) (idx k) = k := fun k h => by
    have e : idx k = Classical.choose (hk k h) := dif_pos h
    rw [e]
    exact Classical.choose_spec (hk k h)
  refine fb_holes 4 (fb_ct (inT r) F) (fun k => (r (idx k)).toNatClampNeg) (fun i hi => ?_) (fun i j hij hj e => ?_)
  · obtain ⟨a, b, -⟩ := hidx i hi
    have b2 : r (idx i) ≠ -1 := of_decide_eq_true b
    obtain ⟨p, hp, ep⟩ := (h.1 _ a).resolve_left b2
    show (r (idx i)).toNatClampNeg < 4
    rw [ep, nI_clamp (by omega)]; exact hp
  · obtain ⟨a, b, c⟩ := hidx i (by omega)
    obtain ⟨a2, b2, c2⟩ := hidx j hj
    have n1 : r (idx i) ≠ -1 := of_decide_eq_true b
    have n2 : r (idx j) ≠ -1 := of_decide_eq_true b2
    obtain ⟨p, hp, ep⟩ := (h.1 _ a).resolve_left n1
    obtain ⟨p2, hp2, ep2⟩ := (h.1 _ a2).resolve_left n2
    have hne : idx i ≠ idx j := fun z => by rw [z] at c; omega
    have e2 : (r (idx i)).toNatClampNeg = (r (idx j)).toNatClampNeg := e
    rw [ep, ep2, nI_clamp (by omega), nI_clamp (by omega)] at e2
    exact h.2.1 _ _ a a2 hne n1 (by rw [ep, ep2, e2])
section FIT
variable {E : MEnv} {B I : II} {T : TT} {Q : QQ} {F S n : Nat} {cd : Nat → Nat × Int32} {r q : Nat → Int32}
theorem soR_W (hC : Core B F S n cd) {s f : Nat} (hf : f < F) : rowW (soR B F n cd s f) F := by
  have h8 := hC.F8
  have h1 := hC.rv.w.out h8 (i := f) (by omega)
  unfold soR
  split
  · exact h1
  · exact W_drive h8 h1 _ _ _ _ _
theorem tiredT (hC : Core B F S n cd) (h : ro B I) (hr : agr (I 31) r) {g : Nat} (hg : g < 8) (hq : Q (.inl (some (.int (if g < F then r (16 + g) else 0)))) I T) : ev E 127 0 [some (.ref 30), some (.int (nI g))] [] I T Q := by
  refine p_tiredOf_30 (hC.1.ro h) (by omega) ?_
  rw [hr (16 + g) (by omega)]
  exact hq
theorem l_isRight (hA : InvA B F S n cd) (h : ro B I) (hr : agr (I 31) r) (h1 : rgt B F r → Q (.inl (some (.int 1))) I T) (h0 : ¬ rgt B F r → Q (.inl (some (.int 0))) I T) : ∀ (d g : Nat), g + d = 8 → (∀ k, k < g → k < F → B 21 k = -1 ∨ B 21 k = r (16 + k)) → t_Book_isRight_30_2 E I T Q (nI g)
  | 0, g, hg, hp => by
    have h8 := hA.1.F8
    unfold t_Book_isRight_30_2
    exact bq_t (nI_le (a := 8) (b := g) (by omega) (by omega)) (h1 (fun k hk => hp k (by omega) hk))
  | d + 1, g, hg, hp => by
    have h8 := hA.1.F8
    have e21 : I 21 = B 21 := h.cell (c := 21) (by decide)
    unfold t_Book_isRight_30_2 t_Book_isRight_30_21
    refine bq_f (nI_ge (a := g) (b := 8) (by omega) (by omega)) ⟨gix (by omega) (by omega), ?_⟩
    rw [nI_clamp (by omega), e21, nI_1]
    have next : (g < F → B 21 g = -1 ∨ B 21 g = r (16 + g)) → ev E 250 2 [some (.ref 20), some (.ref 30), some (.int (nI (g + 1)))] [] I T Q := fun hx =>
      s_Book_isRight_30_2 (l_isRight hA h hr h1 h0 d (g + 1) (by omega) (fun k hk hk2 => by
        by_cases e : k = g
        · subst e; exact hx hk2
        · exact hp k (by omega) hk2))
    refine ⟨fun c => next (fun _ => Or.inl c), fun c => ⟨⟨nI_pos (by omega), by omega⟩, ?_⟩⟩
    obtain ⟨k, -, -, -, hj, hf⟩ := hA.2.1
    rcases hf g (by omega) with z | ⟨j, j1, j2⟩
    · exact absurd z c
    · obtain ⟨f, v, a1, -, a2, -⟩ := hj j j1
      have hgF : g < F := by
        rw [a2] at j2
        rw [← (nI_eq (by omega) (by omega)).mp j2]; exact a1
      refine tiredT hA.1 h hr (by omega) ?_
      rw [if_pos hgF]
      exact ⟨fun c2 => next (fun _ => Or.inr c2), fun c2 => h0 (fun z => by
        rcases z g hgF with y | y
        · exact c y
        · exact c2 y)⟩
/-- one is left out, and the stage driven: the class's trial -/
theorem rf_so (hC : Core B F S n cd) (h : ro B I) {s f : Nat} (hs : s < S) (hf : f < F) (hq : ∀ J, FR [18, 19, 30, 31] I J → agr (J 31) (soR B F n cd s f) → t_Guess_gather_28_30_36 E J T Q (nI s) (nI f)) : ev E 212 0 [some (.ref 30), some (.ref 28)] [] I T (KV (fun I2 T2 => ev E 118 0 [some (.ref 30), some (.int (nI f))] [] I2 T2 (KV (fun I3 T3 => ev E 112 0 [some (.ref 30), none, none] [] I3 T3 (KI (fun v4 I4 T4 => (v4 = 0 → (t_Guess_gather_28_30_36 E I4 T4 Q (nI s) (nI f))) ∧ (¬ (v4 = 0) → (ev E 120 0 [some (.ref 30), some (.int (nI s)), none, none, none] [] I4 T4 (KV (fun I5 T5 => t_Guess_gather_28_30_36 E I5 T5 Q (nI s) (nI f)) (fun x I1 T1 => Q (.inr x) I1 T1))))) (fun x I1 T1 => Q (.inr x) I1 T1))) (fun x I1 T1 => Q (.inr x) I1 T1))) (fun x I1 T1 => Q (.inr x) I1 T1)) := by
  have h8 := hC.F8
  refine p_copyFrom ?_
  have h1 : ro B (m_row I 31 (va_cpy (I 29) (I 31) 0 0 29)) := h.trans (ro_row I (by decide) _)
  refine p_takeOut_30 (hC.1.ro h1) hf ?_
  rw [row_row]
  have ea : agr (upd (va_cpy (I 29) (I 31) 0 0 29) f (-1)) (upd (B 29) f (-1)) := by
    refine agr.upd (fun j hj => ?_) _ _
    rw [cpy_in hj, h.cell (c := 29) (by decide)]
  have h2 : ro B (m_row I 31 (upd (va_cpy (I 29) (I 31) 0 0 29) f (-1))) := h.trans (ro_row I (by decide) _)
  have f2 : FR [18, 19, 30, 31] I (m_row I 31 (upd (va_cpy (I 29) (I 31) 0 0 29) f (-1))) := FR.row (by decide) _
  refine ra_bits hC h2 ea ?_
  unfold soR at hq
  refine ⟨fun c => ?_, fun c => ?_⟩
  · rw [if_pos c] at hq
    exact hq _ f2 ea
  · rw [if_neg c] at hq
    refine p_driveOver_30 (hC.1.ro h2) (hC.lr.ro h2) hs (fun J hJ => ?_)
    refine hq _ (f2.trans ((hJ.mono (by decide)).trans (FR.row (by decide) _))) ?_
    have e := drvR_agr (B := B) (n := n) (cd := cd) h8 ea s
    rw [sidesC_30_R h2 rfl, h2.cell (c := 7) (by decide), h2.cell (c := 8) (by decide), h2.cell (c := 3) (by decide)]
    exact e
theorem l_keep (hC : Core B F S n cd) {m : Nat} (hm : m < 24) {r : Nat → Int32} : ∀ (d g : Nat) (I : II), ro B I → agr (I 31) r → I 44 1 = nI m → g + d = 8 → (∀ J, FR [44, 45] I J → J 44 1 = nI (m + 1) → J 44 2 = I 44 2 → (∀ i, i < 8 * m + g → J 45 i = I 45 i) → (∀ k, g ≤ k → k < 8 → J 45 (8 * m + k) = if k < F then r (16 + k) else 0) → Q (.inl none) J T) → t_Guess_keep_30_12 E I T Q (nI g)
  | 0, g, I, h, hr, h1, hg, hq => by
    unfold t_Guess_keep_30_12 t_Guess_keep_30_35
    refine bq_t (nI_le (a := 8) (b := g) (by omega) (by omega)) ?_
    rw [h1, nI_1]
    exact hq _ (FR.up (by decide) _ _) rfl rfl (fun i _ => rfl) (fun k a b => by omega)
  | d + 1, g, I, h, hr, h1, hg, hq => by
    unfold t_Guess_keep_30_12
    refine bq_f (nI_ge (a := g) (b := 8) (by omega) (by omega)) ?_
    refine tiredT hC h hr (by omega) ?_
    have e : (nI m * 8 + nI g : Int32) = nI (8 * m + g) := by
      have : (nI m * 8 : Int32) = nI (m * 8) := pk_mul m 8
      rw [this, nI_add, Nat.mul_comm]
    rw [h1, e]
    refine ⟨gix (by omega) (by omega), ?_⟩
    rw [nI_clamp (by omega), nI_1]
    have h2 : ro B (m_up I 45 (8 * m + g) (if g < F then r (16 + g) else 0)) := h.trans (ro_up I (by decide) _ _)
    refine s_Guess_keep_30_12 (l_keep hC hm d (g + 1) _ h2 hr h1 (by omega) (fun J hJ j1 j2 j3 j4 => ?_))
    refine hq J ((FR.up (by decide) _ _).trans hJ) j1 j2 (fun i hi => ?_) (fun k a b => ?_)
    · rw [j3 i (by omega), m_up_at, if_neg (by omega)]
    · by_cases c : k = g
      · subst c
        rw [j3 (8 * m + k) (by omega), m_up_at, if_pos rfl]
      · exact j4 k (by omega) b
theorem qk_keep (hC : Core B F S n cd) (h : ro B I) {m : Nat} (hm : m < 24) (hr : agr (I 31) r) (h1 : I 44 1 = nI m) (x : Int32) (hq : ∀ J, FR [44, 45] I J → J 44 1 = nI (m + 1) → J 44 2 = (if m = 0 then x else I 44 2) → (∀ i, i < 8 * m → J 45 i = I 45 i) → (∀ k, k < 8 → J 45 (8 * m + k) = if k < F then r (16 + k) else 0) → Q (.inl none) J T) : ev E 251 0 [some (.ref 44), some (.ref 30), some (.int x), none] [] I T Q := by
  refine s_Guess_keep_30_0 ?_
  unfold t_Guess_keep_30_0 t_Guess_keep_30_6 t_Guess_keep_30_35
  refine ⟨fun c => bq_f ?_ ?_, fun c => bq_f ?_ ?_⟩
  · show ¬ 24 ≤ I 44 1
    rw [h1]; exact nI_ge (a := m) (b := 24) (by omega) (by omega)
  · have hm0 : m = 0 := (nI_eq (a := m) (b := 0) (by omega) (by omega)).mp (h1.symm.trans c)
    have h2 : ro B (m_up I 44 2 x) := h.trans (ro_up I (by decide) _ _)
    refine l_keep hC hm 8 0 _ h2 hr h1 (by omega) (fun J hJ j1 j2 j3 j4 => ?_)
    exact hq J ((FR.up (by decide) _ _).trans hJ) j1 (by rw [if_pos hm0]; exact j2) (fun i hi => by rw [j3 i (by omega)]; rfl) (fun k hk => j4 k (by omega) hk)
  · rw [h1]; exact nI_ge (a := m) (b := 24) (by omega) (by omega)
  · have hm0 : m ≠ 0 := fun z => c (by rw [h1, z]; rfl)
    refine l_keep hC hm 8 0 I h hr h1 (by omega) (fun J hJ j1 j2 j3 j4 => ?_)
    exact hq J hJ j1 (by rw [if_neg hm0]; exact j2) (fun i hi => j3 i (by omega)) (fun k hk => j4 k (by omega) hk)
/-- what GUESS holds -/
def gsH (B : II) (F n : Nat) (cd : Nat → Nat × Int32) (I : II) (l : LL) : Prop := I 44 1 = nI l.1 ∧ I 44 2 = fsV l ∧ ∀ i, i < l.1 → ∀ g, g < F → I 45 (8 * i + g) = soR B F n cd (l.2 i).1 (l.2 i).2 (16 + g)
theorem l_gather2 (hA : InvA B F S n cd) {s : Nat} (hs : s < S) : ∀ (d f : Nat) (l : LL) (I : II), ro B I → gsH B F n cd I l → l.1 ≤ 4 * s + fb_ct (inT (B 29)) f → f + d = F → (∀ J, ro B J → gsH B F n cd J (rep (ftS B F n cd s) d f l) → (rep (ftS B F n cd s) d f l).1 ≤ 4 * (s + 1) → t_Guess_gather_28_30_8 E J T Q (nI (s + 1))) → t_Guess_gather_28_30_15 E I T Q (nI s) (nI f)
  | 0, f, l, I, h, hg, hl, hf, hq => by
    have h8 := hA.1.F8
    have h4 := team4 h8 hA.1.rv.w
    have hf2 : f = F := by omega
    unfold t_Guess_gather_28_30_15
    rw [(hA.1.1.ro h).1, nI_1 s]
    refine bq_t (nI_le (by omega) (by omega)) (s_Guess_gather_28_30_8 (hq I h hg ?_))
    rw [hf2] at hl
    show l.1 ≤ _
    omega
  | d + 1, f, l, I, h, hg, hl, hf, hq => by
    have h8 := hA.1.F8
    have h6 := hA.1.S6
    have h4 := team4 h8 hA.1.rv.w
    have hmono := fb_ct_mono (inT (B 29)) (show f + 1 ≤ F by omega)
    have hsucc := fb_ct_succ (inT (B 29)) f
    unfold t_Guess_gather_28_30_15 t_Guess_gather_28_30_48
    rw [(hA.1.1.ro h).1, nI_1 f]
    refine bq_f (nI_ge (by omega) (by omega)) ?_
    refine q_has hA.1 h (by omega) ?_
    rw [rep] at hq
    by_cases c : B 29 f = -1
    · rw [if_pos c]
      refine bq_t rfl ?_
      rw [ftS_no c] at hq
      exact s_Guess_gather_28_30_15 (l_gather2 hA hs d (f + 1) l I h hg (by omega) (by omega) hq)
    · rw [if_neg c]
      have ct : inT (B 29) f = true := decide_eq_true c
      rw [ct] at hsucc
      simp only [if_true] at hsucc
      refine bq_f (by decide) ?_
      refine rf_so hA.1 h hs (by omega) (fun J hJ hj => ?_)
      have h2 : ro B J := h.trans (hJ.ro (by decide))
      have hg2 : gsH B F n cd J l := by
        unfold gsH at hg ⊢
        rw [hJ 44 (by decide), hJ 45 (by decide)]; exact hg
      unfold t_Guess_gather_28_30_36 t_Guess_gather_28_30_48
      rw [nI_1 f]
      refine s_Book_isRight_30_0 (l_isRight hA h2 hj (fun k => ?_) (fun k => ?_) 8 0 (by omega) (fun k hk _ => by omega))
      · rw [ftS_in c k] at hq
        refine bq_f (by decide) ?_
        refine qk_keep hA.1 h2 (m := l.1) (by omega) hj hg2.1 _ (fun K hK k1 k2 k3 k4 => ?_)
        refine s_Guess_gather_28_30_15 (l_gather2 hA hs d (f + 1) (ftP l (s, f)) K (h2.trans (hK.ro (by decide))) ⟨k1, ?_, fun i hi g hgF => ?_⟩ ?_ (by omega) hq)
        · rw [k2, fsV_P, hg2.2.1]
        · have hi2 : i < l.1 + 1 := hi
          show K 45 (8 * i + g) = soR B F n cd (if i = l.1 then (s, f) else l.2 i).1 (if i = l.1 then (s, f) else l.2 i).2 (16 + g)
          by_cases e : i = l.1
          · subst e
            rw [if_pos rfl, k4 g (by omega), if_pos hgF]
          · rw [if_neg e, k3 _ (by omega)]
            exact hg2.2.2 i (by omega) g hgF
        · show l.1 + 1 ≤ _
          omega
      · rw [ftS_out c k] at hq
        refine bq_t rfl ?_
        exact s_Guess_gather_28_30_15 (l_gather2 hA hs d (f + 1) l J h2 hg2 (by omega) (by omega) hq)
theorem l_gather1 (hA : InvA B F S n cd) : ∀ (d s : Nat) (l : LL) (I : II), ro B I → gsH B F n cd I l → l.1 ≤ 4 * s → s + d = S → (∀ J, ro B J → gsH B F n cd J (rep (fun s l => rep (ftS B F n cd s) F 0 l) d s l) → (rep (fun s l => rep (ftS B F n cd s) F 0 l) d s l).1 ≤ 24 → Q (.inl none) J T) → t_Guess_gather_28_30_8 E I T Q (nI s)
  | 0, s, l, I, h, hg, hl, hs, hq => by
    have h6 := hA.1.S6
    unfold t_Guess_gather_28_30_8
    rw [(hA.1.1.ro h).2.2.1]
    refine bq_t (nI_le (by omega) (by omega)) (hq I h hg ?_)
    show l.1 ≤ 24
    omega
  | d + 1, s, l, I, h, hg, hl, hs, hq => by
    have h6 := hA.1.S6
    unfold t_Guess_gather_28_30_8
    rw [(hA.1.1.ro h).2.2.1]
    refine bq_f (nI_ge (by omega) (by omega)) ?_
    rw [rep] at hq
    exact l_gather2 hA (by omega) F 0 l I h hg (by show l.1 ≤ 4 * s + 0; omega) (by omega) (fun J hJ hj hl2 => l_gather1 hA d (s + 1) _ J hJ hj hl2 (by omega) hq)
theorem qk_gather (hA : InvA B F S n cd) (h : ro B I) (hq : ∀ J, ro B J → gsH B F n cd J (ftA B F S n cd) → (ftA B F S n cd).1 ≤ 24 → Q (.inl none) J T) : ev E 249 0 [some (.ref 44), some (.ref 28), some (.ref 30), some (.ref 20), none, none] [] I T Q := by
  refine s_Guess_gather_28_30_0 ?_
  unfold t_Guess_gather_28_30_0
  exact l_gather1 hA S 0 (0, fun _ => (0, 0)) _ (h.trans ((ro_up I (by decide) _ _).trans (ro_up _ (by decide) _ _))) ⟨rfl, rfl, fun i hi => absurd hi (Nat.not_lt_zero i)⟩ (by show 0 ≤ 0; omega) (by omega) hq
noncomputable def fitV (B : II) (F S n : Nat) (cd : Nat → Nat × Int32) (j : Nat) : Int32 := if j = 0 then nI (ftA B F S n cd).1 else fsV (ftA B F S n cd)
/-! the reference -/
theorem mt_drivenF (hC : Core B F S n cd) (h : ro B I) (hW : rowW r F) (hR : rowR r (I 509)) {s : Nat} (hs : s < S) (hq : ∀ J, FR [425, 426, 509] I J → rowR (drvR B F n cd r s) (J 509) → Q (.inl (some (.int (nI (outR B F n cd r s))))) J T) : ev E 155 0 [some (.ref 46), some (.ref 509), some (.int (nI s)), none, none, none, none] [] I T Q := by
  have h6 := hC.S6
  obtain ⟨e1, e2, -⟩ := hC.st hs
  have k1 : I (77 + s) 0 = B 7 s := by rw [h.cell (c := 77 + s) (scr_rng (a := 77) (b := 83) (by omega) (by omega) (by decide))]; exact e1
  have k2 : I (77 + s) 1 = B 8 s := by rw [h.cell (c := 77 + s) (scr_rng (a := 77) (b := 83) (by omega) (by omega) (by decide))]; exact e2
  have k3 : I 50 2 = B 3 7 := by rw [h.cell (c := 50) (by decide)]; exact hC.br
  refine p_driven_509 (hC.2.1.ro h) (hC.lr.ro h) (mt_plc hC hW hR) (by omega) (fun ho => ?_) (fun J hJ => ?_)
  · rw [sidesM_R hC h hR] at ho ⊢
    rw [k1, k2, k3] at ho
    obtain ⟨k, a1, a2, a3⟩ := out_pos hC hs ho
    rw [a3]
    exact nI_ne0 a1 a2
  · rw [sidesM_R hC h hR, k1, k2, k3, outc_N]
    exact hq _ ((hJ.mono (by decide)).trans (FR.row (by decide) _)) (drv_alike hC hs hW hR)
theorem l_isSo (hA : InvA B F S n cd) (h : ro B I) (hR : rowR r (I 509)) (h1 : rgt B F r → Q (.inl (some (.int 1))) I T) (h0 : ¬ rgt B F r → Q (.inl (some (.int 0))) I T) {k : Nat} (hk : k ≤ 8) (e2 : B 46 33 = nI k) (hj : ∀ j, j < k → ∃ f v, f < F ∧ v ≤ 999 ∧ B (408 + j) 0 = nI f ∧ B (408 + j) 1 = nI v ∧ B 21 f = nI v) (hf : ∀ f, f < 8 → B 21 f = -1 ∨ ∃ j, j < k ∧ B (408 + j) 0 = nI f) : ∀ (d i : Nat), i + d = k → (∀ j, j < i → ∀ f, f < F → B (408 + j) 0 = nI f → B 21 f = r (16 + f)) → t_M_isSo_25 E I T Q (nI i)
  | 0, i, hi, hp => by
    have h8 := hA.1.F8
    unfold t_M_isSo_25
    rw [h.2.2 33 (by decide) (by decide) (by decide) (by decide), e2]
    refine bq_t (nI_le (by omega) (by omega)) (h1 (fun g hg => ?_))
    rcases hf g (by omega) with z | ⟨j, j1, j2⟩
    · exact Or.inl z
    · exact Or.inr (hp j (by omega) g hg j2)
  | d + 1, i, hi, hp => by
    have h8 := hA.1.F8
    obtain ⟨f, v, a1, a2, a3, a4, a5⟩ := hj i (by omega)
    have c408 : I (408 + i) = B (408 + i) := h.cell (scr_rng (a := 408) (b := 416) (by omega) (by omega) (by decide))
    unfold t_M_isSo_25
    rw [h.2.2 33 (by decide) (by decide) (by decide) (by decide), e2, nI_clamp (show i < 2 ^ 31 by omega), c408, a3, a4, z16, nI_clamp (show 16 + f < 2 ^ 31 by omega), hR.1 (16 + f) (by omega), nI_1]
    have gi : ¬ nI i < 0 ∧ i < 8 := ⟨nI_pos (by omega), by omega⟩
    refine bq_f (nI_ge (by omega) (by omega)) ⟨gi, ⟨nI_pos (by omega), by omega⟩, gi, fun c => ?_, fun c => h0 (fun z => ?_)⟩
    · refine s_M_isSo_25 (l_isSo hA h hR h1 h0 hk e2 hj hf d (i + 1) (by omega) (fun j hj2 g hg e => ?_))
      by_cases q : j = i
      · subst q
        have : f = g := (nI_eq (by omega) (by omega)).mp (a3.symm.trans e)
        subst this
        rw [a5, c]
      · exact hp j (by omega) g hg e
    · rcases z f a1 with y | y
      · rw [a5] at y; exact nI_m1 (by omega) y
      · rw [a5] at y; exact c y.symm
theorem qk_isSo (hA : InvA B F S n cd) (h : ro B I) {s f : Nat} (hs : s < S) (hf : f < F) (h1 : ∀ J, FR [425, 426, 509] I J → rowR (soR B F n cd s f) (J 509) → rgt B F (soR B F n cd s f) → Q (.inl (some (.int 1))) J T) (h0 : ∀ J, FR [425, 426, 509] I J → ¬ rgt B F (soR B F n cd s f) → Q (.inl (some (.int 0))) J T) : ev E 253 0 [some (.ref 46), some (.int (nI s)), some (.int (nI f)), none] [] I T Q := by
  have h8 := hA.1.F8
  have hC := hA.1
  obtain ⟨k, hk, -, e2, hj, hf2⟩ := hA.2.1
  refine s_M_isSo_0 ?_
  unfold t_M_isSo_0 t_M_isSo_23
  refine p_copies (fun ρ hρ => ?_)
  rw [z0]
  refine ⟨gix (by omega) (by omega), ?_⟩
  rw [nI_clamp (by omega), up_row]
  have f2 : FR [425, 426, 509] I (m_row I 509 (upd ρ f (-1))) := FR.row (by decide) _
  have h2 : ro B (m_row I 509 (upd ρ f (-1))) := h.trans (f2.ro (by decide))
  have hR : rowR (upd (B 29) f (-1)) ((m_row I 509 (upd ρ f (-1))) 509) := (rowR_copy hC (fun _ _ => rfl) (fun j hj => by rw [hρ j hj, h.cell (c := 508) (by decide)])).up (by omega) rfl
  have hW : rowW (upd (B 29) f (-1)) F := hC.rv.w.out h8 (by omega)
  refine mt_bits hC h2 hR ?_
  unfold soR at h1 h0
  refine ⟨fun c => ?_, fun c => ?_⟩
  · rw [if_pos c] at h1 h0
    exact l_isSo hA h2 hR (fun z => h1 _ f2 hR z) (fun z => h0 _ f2 z) hk e2 hj hf2 k 0 (by omega) (fun j hj => by omega)
  · rw [if_neg c] at h1 h0
    refine mt_drivenF hC h2 hW hR hs (fun J hJ hj3 => ?_)
    have f3 := f2.trans hJ
    exact l_isSo hA (h.trans (f3.ro (by decide))) hj3 (fun z => h1 _ f3 hj3 z) (fun z => h0 _ f3 z) hk e2 hj hf2 k 0 (by omega) (fun j hj => by omega)
theorem l_mfits2 (hA : InvA B F S n cd) {s j : Nat} (hs : s < S) : ∀ (d f : Nat) (l : LL) (I : II), ro B I → I 46 0 = 0 → l.1 ≤ 4 * s + fb_ct (inT (B 29)) f → f + d = F → (∀ J, ro B J → J 46 0 = 0 → (rep (ftS B F n cd s) d f l).1 ≤ 4 * (s + 1) → t_M_fits_24 E J T Q (nI j) (nI (rep (ftS B F n cd s) d f l).1) (fsV (rep (ftS B F n cd s) d f l)) (nI (s + 1))) → t_M_fits_32 E I T Q (nI j) (nI l.1) (fsV l) (nI s) (nI f)
  | 0, f, l, I, h, h0, hl, hf, hq => by
    have h8 := hA.1.F8
    have h4 := team4 h8 hA.1.rv.w
    have hf2 : f = F := by omega
    unfold t_M_fits_32
    rw [(hA.1.2.1.ro h).1, nI_1 s]
    refine bq_t (nI_le (by omega) (by omega)) (s_M_fits_24 (hq I h h0 ?_))
    rw [hf2] at hl
    show l.1 ≤ _
    omega
  | d + 1, f, l, I, h, h0, hl, hf, hq => by
    have h8 := hA.1.F8
    have h6 := hA.1.S6
    have h4 := team4 h8 hA.1.rv.w
    have hmono := fb_ct_mono (inT (B 29)) (show f + 1 ≤ F by omega)
    have hsucc := fb_ct_succ (inT (B 29)) f
    have e508 : I 508 = B 508 := h.cell (c := 508) (by decide)
    unfold t_M_fits_32 t_M_fits_61 t_M_fits_63
    rw [(hA.1.2.1.ro h).1, nI_1 f, z0, nI_1 l.1]
    refine bq_f (nI_ge (by omega) (by omega)) ⟨gix (by omega) (by omega), ?_⟩
    rw [nI_clamp (by omega), e508, hA.1.q (by omega)]
    rw [rep] at hq
    refine ⟨fun c => ?_, fun c => ?_⟩
    · rw [ftS_no c] at hq
      exact s_M_fits_32 (l_mfits2 hA hs d (f + 1) l I h h0 (by omega) (by omega) hq)
    · have ct : inT (B 29) f = true := decide_eq_true c
      rw [ct] at hsucc
      simp only [if_true] at hsucc
      refine qk_isSo hA h hs (by omega) (fun J hJ _ k => ?_) (fun J hJ k => ?_)
      · rw [ftS_in c k] at hq
        have h2 : ro B J := h.trans (hJ.ro (by decide))
        have j0 : J 46 0 = 0 := by rw [hJ 46 (by decide)]; exact h0
        have hr := l_mfits2 hA hs d (f + 1) (ftP l (s, f)) J h2 j0 (by show l.1 + 1 ≤ _; omega) (by omega) hq
        rw [fsV_P] at hr
        refine bq_f (by decide) ⟨fun z => ?_, fun z => ?_⟩
        · have hm0 : l.1 = 0 := (nI_eq (a := l.1) (b := 0) (by omega) (by omega)).mp z
          rw [if_pos hm0] at hr
          exact s_M_fits_32 hr
        · have hm0 : l.1 ≠ 0 := fun y => z (by rw [y]; rfl)
          rw [if_neg hm0] at hr
          exact s_M_fits_32 hr
      · rw [ftS_out c k] at hq
        refine bq_t rfl ?_
        exact s_M_fits_32 (l_mfits2 hA hs d (f + 1) l J (h.trans (hJ.ro (by decide))) (by rw [hJ 46 (by decide)]; exact h0) (by omega) (by omega) hq)
theorem l_mfits1 (hA : InvA B F S n cd) {j : Nat} (hj : j ≤ 1) : ∀ (d s : Nat) (l : LL) (I : II), ro B I → I 46 0 = 0 → l.1 ≤ 4 * s → s + d = S → (∀ J, ro B J → J 46 0 = 0 → Q (.inl (some (.int (if j = 0 then nI (rep (fun s l => rep (ftS B F n cd s) F 0 l) d s l).1 else fsV (rep (fun s l => rep (ftS B F n cd s) F 0 l) d s l))))) J T) → t_M_fits_24 E I T Q (nI j) (nI l.1) (fsV l) (nI s)
  | 0, s, l, I, h, h0, hl, hs, hq => by
    have h6 := hA.1.S6
    unfold t_M_fits_24 t_M_fits_72
    rw [(hA.1.2.1.ro h).2.2.1]
    refine bq_t (nI_le (by omega) (by omega)) ?_
    match j, hj with
    | 0, _ => exact bq_t rfl (hq I h h0)
    | 1, _ => exact bq_f (by decide) (hq I h h0)
  | d + 1, s, l, I, h, h0, hl, hs, hq => by
    have h6 := hA.1.S6
    unfold t_M_fits_24
    rw [(hA.1.2.1.ro h).2.2.1]
    refine bq_f (nI_ge (by omega) (by omega)) ?_
    rw [rep] at hq
    exact l_mfits2 hA (by omega) F 0 l I h h0 (by show l.1 ≤ 4 * s + 0; omega) (by omega) (fun J hJ j0 hl2 => l_mfits1 hA hj d (s + 1) _ J hJ j0 hl2 (by omega) hq)
theorem xq_fits (hA : InvA B F S n cd) (hT : TG T) {j : Nat} (hj : j ≤ 1) (hq : ∀ J, ro B J → Q (.inl (some (.int (fitV B F S n cd j)))) J T) : ev E 248 0 [some (.ref 0), some (.int (nI j))] [] B T Q := by
  have hC := hA.1
  have h8 := hC.F8
  have h6 := hC.S6
  refine s_X_fits_0 ?_
  unfold t_X_fits_0 t_X_fits_24
  refine q_within _ _ _ ?_
  rw [show wI (nI j) 0 1 = 1 from wI_n (b := 1) hj (by decide)]
  refine q_need hT _ (fun _ => ?_) (fun q => absurd q (by decide))
  refine qk_gather hA (ro.refl B) (fun J hJ hg _ => ?_)
  have z := hq J hJ
  unfold fitV at z
  rw [← hg.1, ← hg.2.1] at z
  match j, hj with
  | 0, _ => exact bq_t rfl z
  | 1, _ => exact bq_f (by decide) z
theorem mq_fits (hA : InvA B F S n cd) (h : ro B I) {j : Nat} (hj : j ≤ 1) (hq : ∀ J, ro B J → J 46 0 = 0 → Q (.inl (some (.int (fitV B F S n cd j)))) J T) : ev E 252 0 [some (.ref 46), some (.int (nI j)), none, none, none, none] [] I T Q := by
  have hC := hA.1
  have h8 := hC.F8
  have h6 := hC.S6
  have hI : ro B (m_up I 46 0 0) := h.trans (ro_thrown I 0)
  have h0 : (m_up I 46 0 0) 46 0 = 0 := rfl
  refine s_M_fits_0 ?_
  unfold t_M_fits_0 t_M_fits_12
  refine q_in _ _ _ ?_
  rw [show wI (nI j) 0 1 = 1 from wI_n (b := 1) hj (by decide)]
  refine bq_f (by decide) ?_
  refine qm_bad0 rfl _ _ ?_
  refine bq_t rfl ?_
  exact l_mfits1 hA hj S 0 (0, fun _ => (0, 0)) _ hI h0 (by show 0 ≤ 0; omega) (by omega) hq
theorem xq_fits_b0 (hA : InvA B F S n cd) (hT : TG T) {a1 : Int32} (c : ¬ okW a1 0 1) (hq : Q (.inr 1) (m_up B 0 15 (B 0 15 + 1)) (TX T)) : ev E 248 0 [some (.ref 0), some (.int (a1))] [] B T Q := by
  refine s_X_fits_0 ?_
  unfold t_X_fits_0 t_X_fits_24
  refine q_within _ _ _ ?_
  rw [wI_f c]
  exact q_need hT _ (fun q => absurd rfl q) (fun _ => hq)
theorem mq_fits_b0 (hm : mN I F S) {a1 : Int32} (c : ¬ okW a1 0 1) (hq : ∀ v J, ro (m_up I 48 1 (I 48 1 + 1)) J → J 46 0 = 1 → Q (.inl (some (.int v))) J T) : ev E 252 0 [some (.ref 46), some (.int (a1)), none, none, none, none] [] I T Q := by
  have hm2 : mN (m_up I 46 0 0) F S := hm
  refine s_M_fits_0 ?_
  unfold t_M_fits_0 t_M_fits_12
  refine q_in _ _ _ ?_
  rw [wI_f c]
  refine bq_t rfl ?_
  refine qm_bad1 (j := 1) rfl (by decide) (by decide) ?_
  refine bq_f (by decide) ?_
  exact hq _ _ (ro_bad I _ _) rfl

theorem o_fits : op_ok Inv E t_W_main_762 := by
  intro I T Q i m hI hT hm hi hL hn
  have hG := TI_g hT hm
  obtain ⟨F, S, n, cd, hA⟩ := hI
  unfold t_W_main_762
  generalize E.2.2 (nI i + 1).toNatClampNeg = a1
  refine ⟨gsc 1 hi hL (by decide), ?_⟩
  refine s_W_fits_0 ?_
  unfold t_W_fits_0 t_W_fits_9
  by_cases c0 : okW a1 0 1
  · obtain ⟨j, hj, rfl⟩ := okW_nat (k := 1) (by decide) c0
    refine xq_fits hA hG hj (fun J hJ => ?_)
    exact ⟨gsc 1 hi hL (by decide), mq_fits hA hJ hj (fun K hK h0 => fin_ok h0 (fun _ => rfl) (hn K _ ⟨F, S, n, cd, hA.ro hK⟩ (TI_s hT)))⟩
  · refine xq_fits_b0 hA hG  c0 ?_
    refine ⟨rfl, ?_⟩
    exact ⟨gsc 1 hi hL (by decide), mq_fits_b0 (F := F) (S := S) (show mN (m_up I 0 15 (I 0 15 + 1)) F S from hA.1.2.1)  c0 (fun v J hJ h0 => fin_ok h0 (fun q => absurd q (by decide)) (hn J _ (Inv_thr (x := 1) (by decide) ⟨F, S, n, cd, hA⟩ rfl (ro.refl _) hJ) (TI_x hT)))⟩
end FIT
