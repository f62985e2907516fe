/-! ===== look ===== -/
def ctE (v : Nat → Int32) (m i : Nat) : Nat := fb_ct (fun j => decide (v i = v j)) m
def mxN (w a : Nat) : Nat := if w < a then a else w
def wC (v : Nat → Int32) (m : Nat) : Nat := rep (fun i w => mxN w (ctE v m i)) m 0 0
def isW (v : Nat → Int32) (m w : Nat) : Prop := (∀ i, i < m → ctE v m i ≤ w) ∧ (w = 0 ∨ ∃ i, i < m ∧ ctE v m i = w)
theorem isW_one {v : Nat → Int32} {m w u : Nat} (h : isW v m w) (k : isW v m u) : w = u := by
  have a : w ≤ u := by
    rcases h.2 with e | ⟨i, hi, e⟩
    · omega
    · rw [← e]; exact k.1 i hi
  have b : u ≤ w := by
    rcases k.2 with e | ⟨i, hi, e⟩
    · omega
    · rw [← e]; exact h.1 i hi
  omega
theorem isW_le {v : Nat → Int32} {m w : Nat} (h : isW v m w) : w ≤ m := by
  rcases h.2 with e | ⟨i, hi, e⟩
  · omega
  · rw [← e]; exact fb_ct_le _ _
theorem wC_isW (v : Nat → Int32) (m : Nat) : isW v m (wC v m) := by
  have key : ∀ d f w, f + d = m → (∀ i, i < f → ctE v m i ≤ w) → (w = 0 ∨ ∃ i, i < m ∧ ctE v m i = w) → isW v m (rep (fun i w => mxN w (ctE v m i)) d f w) := by
    intro d
    induction d with
    | zero => intro f w hf h1 h2; exact ⟨fun i hi => h1 i (by omega), h2⟩
    | succ d ih =>
      intro f w hf h1 h2
      rw [rep]
      refine ih (f + 1) _ (by omega) (fun i hi => ?_) ?_
      · show ctE v m i ≤ mxN w (ctE v m f)
        unfold mxN
        by_cases e : i = f
        · subst e; split <;> omega
        · have := h1 i (by omega)
          split <;> omega
      · show mxN w (ctE v m f) = 0 ∨ _
        unfold mxN
        split
        · exact Or.inr ⟨f, by omega, rfl⟩
        · exact h2
  exact key m 0 0 (by omega) (fun i hi => by omega) (Or.inl rfl)
theorem isW_push {v u : Nat → Int32} {m w : Nat} (h : isW v m w) (hv : ∀ j, j < m → u j = v j) : isW u (m + 1) (if w ≤ ctE u (m + 1) m then ctE u (m + 1) m else w) := by
  have e1 : ∀ i, i < m → ctE u (m + 1) i = ctE v m i + (if u i = u m then 1 else 0) := fun i hi => by
    show fb_ct (fun j => decide (u i = u j)) (m + 1) = _
    rw [fb_ct_succ]
    have : fb_ct (fun j => decide (u i = u j)) m = ctE v m i := fb_ct_cong (fun k hk => by rw [hv i hi, hv k hk])
    rw [this]
    by_cases c : u i = u m
    · rw [if_pos c, if_pos (by exact decide_eq_true c)]
    · rw [if_neg c, if_neg (by simpa using c)]
  have e2 : ∀ i, i < m → u i = u m → ctE u (m + 1) i = ctE u (m + 1) m := fun i _ e => by unfold ctE; rw [e]
  refine ⟨fun i hi => ?_, ?_⟩
  · by_cases c : i = m
    · subst c; split <;> omega
    · have hi2 : i < m := by omega
      by_cases k : u i = u m
      · rw [e2 i hi2 k]; split <;> omega
      · have := e1 i hi2
        rw [if_neg k] at this
        have := h.1 i hi2
        split <;> omega
  · by_cases c : w ≤ ctE u (m + 1) m
    · rw [if_pos c]; exact Or.inr ⟨m, by omega, rfl⟩
    · rw [if_neg c]
      rcases h.2 with e | ⟨i, hi, e⟩
      · exact Or.inl e
      · refine Or.inr ⟨i, by omega, ?_⟩
        by_cases k : u i = u m
        · have a := e1 i hi
          have b := e2 i hi k
          rw [if_pos k] at a
          omega
        · rw [e1 i hi, if_neg k]; omega
def tvL (B : II) (F n : Nat) (cd : Nat → Nat × Int32) (l : LL) (g i : Nat) : Int32 := soR B F n cd (l.2 i).1 (l.2 i).2 (16 + g)
section LOOK
variable {E : MEnv} {B I : II} {T : TT} {Q : QQ} {F S n : Nat} {cd : Nat → Nat × Int32} {r q : Nat → Int32}
theorem qk_tiredBy {i g : Nat} (hi : i < 24) (hg : g < 8) (hq : Q (.inl (some (.int (I 45 (8 * i + g))))) I T) : ev E 258 0 [some (.ref 44), some (.int (nI i)), some (.int (nI g))] [] I T Q := by
  refine s_Guess_tiredBy_0 ?_
  unfold t_Guess_tiredBy_0 t_Guess_tiredBy_19 t_Guess_tiredBy_20
  refine q_within _ _ _ ?_
  rw [show wI (nI i) 0 23 = 1 from wI_n (b := 23) (by omega) (by decide)]
  refine bq_f (by decide) ?_
  refine q_within _ _ _ ?_
  rw [show wI (nI g) 0 7 = 1 from wI_n (b := 7) (by omega) (by decide)]
  refine bq_f (by decide) ?_
  have e : (nI i * 8 + nI g : Int32) = nI (8 * i + g) := by
    have : (nI i * 8 : Int32) = nI (i * 8) := pk_mul i 8
    rw [this, nI_add, Nat.mul_comm]
  rw [e]
  refine ⟨gix (by omega) (by omega), ?_⟩
  rw [nI_clamp (by omega)]
  exact hq
theorem l_worst2 {m f : Nat} (hm : m ≤ 24) (h1 : I 44 1 = nI m) (hf : f < 8) {w i : Nat} (hi : i < m) {v : Nat → Int32} (hv : ∀ i, i < m → I 45 (8 * i + f) = v i) (hw : w ≤ 24) (hq : t_Guess_worst_4 E I T Q (nI f) (nI (mxN w (ctE v m i))) (nI (i + 1))) : ∀ (d j : Nat), j + d = m → t_Guess_worst_12 E I T Q (nI f) (nI w) (nI i) (nI (fb_ct (fun j => decide (v i = v j)) j)) (nI j)
  | 0, j, hj => by
    have hj2 : j = m := by omega
    subst hj2
    have hc := fb_ct_le (fun k => decide (v i = v k)) j
    unfold t_Guess_worst_12
    rw [h1, nI_1 i]
    refine bq_t (nI_le (by omega) (by omega)) ?_
    have e : (if nI w < nI (fb_ct (fun k => decide (v i = v k)) j) then nI (fb_ct (fun k => decide (v i = v k)) j) else nI w) = nI (mxN w (ctE v j i)) := by
      unfold mxN ctE
      by_cases c : w < fb_ct (fun k => decide (v i = v k)) j
      · rw [if_pos c, if_pos (nI_lt c (by omega))]
      · rw [if_neg c, if_neg (nI_nlt (by omega) (by omega))]
    rw [e]
    exact s_Guess_worst_4 hq
  | d + 1, j, hj => by
    unfold t_Guess_worst_12 t_Guess_worst_26
    rw [h1, nI_1 j, nI_1 (fb_ct (fun j => decide (v i = v j)) j)]
    refine bq_f (nI_ge (by omega) (by omega)) ?_
    refine qk_tiredBy (by omega) hf ?_
    refine qk_tiredBy (by omega) hf ?_
    rw [hv i hi, hv j (by omega)]
    have hn := l_worst2 hm h1 hf hi hv hw hq d (j + 1) (by omega)
    rw [fb_ct_succ] at hn
    refine ⟨fun c => ?_, fun c => ?_⟩
    · rw [if_pos (decide_eq_true c)] at hn
      exact s_Guess_worst_12 hn
    · rw [if_neg (by simpa using c), Nat.add_zero] at hn
      exact s_Guess_worst_12 hn
theorem l_worst1 {m f : Nat} (hm : m ≤ 24) (h1 : I 44 1 = nI m) (hf : f < 8) {v : Nat → Int32} (hv : ∀ i, i < m → I 45 (8 * i + f) = v i) : ∀ (d i w : Nat), i + d = m → w ≤ 24 → Q (.inl (some (.int (nI (rep (fun i w => mxN w (ctE v m i)) d i w))))) I T → t_Guess_worst_4 E I T Q (nI f) (nI w) (nI i)
  | 0, i, w, hi, hw, hq => by
    unfold t_Guess_worst_4
    rw [h1]
    exact bq_t (nI_le (by omega) (by omega)) hq
  | d + 1, i, w, hi, hw, hq => by
    unfold t_Guess_worst_4
    rw [h1]
    refine bq_f (nI_ge (by omega) (by omega)) ?_
    rw [rep] at hq
    have hb : mxN w (ctE v m i) ≤ 24 := by
      have : ctE v m i ≤ m := fb_ct_le _ _
      unfold mxN; split <;> omega
    exact l_worst2 hm h1 hf (by omega) hv hw (l_worst1 hm h1 hf hv d (i + 1) _ (by omega) hb hq) m 0 (by omega)
theorem qk_worst {m f : Nat} (hm : m ≤ 24) (h1 : I 44 1 = nI m) (hf : f < 8) {v : Nat → Int32} (hv : ∀ i, i < m → I 45 (8 * i + f) = v i) (hq : Q (.inl (some (.int (nI (wC v m))))) I T) : ev E 257 0 [some (.ref 44), some (.int (nI f)), none, none, none, none] [] I T Q :=
  s_Guess_worst_0 (l_worst1 hm h1 hf hv m 0 0 (by omega) (by omega) hq)
noncomputable def lkS (B : II) (F S n : Nat) (cd : Nat → Nat × Int32) (f : Nat) (a : Int32 × Int32) : Int32 × Int32 := if B 21 f = -1 then (if a.1 = -1 then (nI f, nI (wC (tvL B F n cd (ftA B F S n cd) f) (ftA B F S n cd).1)) else if a.2 ≤ nI (wC (tvL B F n cd (ftA B F S n cd) f) (ftA B F S n cd).1) then a else (nI f, nI (wC (tvL B F n cd (ftA B F S n cd) f) (ftA B F S n cd).1))) else a
theorem qk_bhas (h : ro B I) {f : Nat} (hf : f < 8) (hq : Q (.inl (some (.int (if B 21 f = -1 then 0 else 1)))) I T) : ev E 256 0 [some (.ref 20), some (.int (nI f))] [] I T Q := by
  refine s_Book_has_0 ?_
  unfold t_Book_has_0 t_Book_has_13 t_Book_has_14
  refine bq_f (nI_pos (by omega)) (bq_f (nI_ge (a := f) (b := 8) (by omega) (by omega)) ⟨gix hf (by omega), ?_⟩)
  rw [nI_clamp (by omega), h.cell (c := 21) (by decide)]
  refine ⟨fun c => ?_, fun c => ?_⟩
  · rw [if_pos c] at hq; exact ⟨Or.inl rfl, hq⟩
  · rw [if_neg c] at hq; exact ⟨Or.inr rfl, hq⟩
theorem l_xlook (hA : InvA B F S n cd) (h : ro B I) (hg : gsH B F n cd I (ftA B F S n cd)) (hm : (ftA B F S n cd).1 ≤ 24) {j : Nat} (hj : j ≤ 1) : ∀ (d f : Nat) (a : Int32 × Int32), f + d = F → Q (.inl (some (.int (pkR j (rep (lkS B F S n cd) d f a))))) I T → t_X_look_21 E I T Q (nI j) a.1 a.2 (nI f)
  | 0, f, a, hf, hq => by
    have h8 := hA.1.F8
    unfold t_X_look_21 t_X_look_53
    rw [(hA.1.1.ro h).1]
    refine bq_t (nI_le (by omega) (by omega)) ?_
    match j, hj with
    | 0, _ => exact bq_t rfl hq
    | 1, _ => exact bq_f (by decide) hq
  | d + 1, f, a, hf, hq => by
    have h8 := hA.1.F8
    unfold t_X_look_21 t_X_look_42 t_X_look_46
    rw [(hA.1.1.ro h).1, nI_1]
    refine bq_f (nI_ge (by omega) (by omega)) ?_
    refine qk_bhas h (by omega) ?_
    rw [rep] at hq
    unfold lkS at hq
    by_cases c : B 21 f = -1
    · rw [if_pos c] at hq ⊢
      refine bq_t rfl ?_
      refine qk_worst hm hg.1 (by omega) (v := tvL B F n cd (ftA B F S n cd) f) (fun i hi => hg.2.2 i hi f (by omega)) ?_
      refine ⟨fun q => ?_, fun q => ⟨fun q2 => ?_, fun q2 => ?_⟩⟩
      · rw [if_pos q] at hq
        exact s_X_look_21 (l_xlook hA h hg hm hj d (f + 1) (nI f, nI (wC (tvL B F n cd (ftA B F S n cd) f) (ftA B F S n cd).1)) (by omega) hq)
      · rw [if_neg q, if_pos q2] at hq
        exact s_X_look_21 (l_xlook hA h hg hm hj d (f + 1) a (by omega) hq)
      · rw [if_neg q, if_neg q2] at hq
        exact s_X_look_21 (l_xlook hA h hg hm hj d (f + 1) (nI f, nI (wC (tvL B F n cd (ftA B F S n cd) f) (ftA B F S n cd).1)) (by omega) hq)
    · rw [if_neg c] at hq ⊢
      exact bq_f (by decide) (s_X_look_21 (l_xlook hA h hg hm hj d (f + 1) a (by omega) hq))
/-! the reference -/
theorem l_isTold (h : ro B I) {f : Nat} (hf : f < 8) {k : Nat} (hk : k ≤ 8) (e2 : B 46 33 = nI k) (h1 : (∃ j, j < k ∧ B (408 + j) 0 = nI f) → Q (.inl (some (.int 1))) I T) (h0 : (¬ ∃ j, j < k ∧ B (408 + j) 0 = nI f) → Q (.inl (some (.int 0))) I T) : ∀ (d i : Nat), i + d = k → (∀ j, j < i → B (408 + j) 0 ≠ nI f) → t_M_isTold_2 E I T Q (nI f) (nI i)
  | 0, i, hi, hp => by
    unfold t_M_isTold_2
    rw [h.2.2 33 (by decide) (by decide) (by decide) (by decide), e2]
    exact bq_t (nI_le (by omega) (by omega)) (h0 (fun ⟨j, a, b⟩ => hp j (by omega) b))
  | d + 1, i, hi, hp => by
    unfold t_M_isTold_2
    rw [h.2.2 33 (by decide) (by decide) (by decide) (by decide), e2, nI_clamp (show i < 2 ^ 31 by omega), nI_1, h.cell (c := 408 + i) (scr_rng (a := 408) (b := 416) (by omega) (by omega) (by decide))]
    refine bq_f (nI_ge (by omega) (by omega)) ⟨⟨nI_pos (by omega), by omega⟩, fun c => h1 ⟨i, by omega, c⟩, fun c => ?_⟩
    refine s_M_isTold_2 (l_isTold h hf hk e2 h1 h0 d (i + 1) (by omega) (fun j hj => ?_))
    by_cases e : j = i
    · subst e; exact c
    · exact hp j (by omega)
theorem qk_isTold (hA : InvA B F S n cd) (h : ro B I) {f : Nat} (hf : f < F) (hq : Q (.inl (some (.int (if B 21 f = -1 then 0 else 1)))) I T) : ev E 260 0 [some (.ref 46), some (.int (nI f)), none] [] I T Q := by
  have h8 := hA.1.F8
  obtain ⟨k, hk, -, e2, hj, hf2⟩ := hA.2.1
  refine s_M_isTold_0 (l_isTold h (by omega) hk e2 (fun z => ?_) (fun z => ?_) k 0 (by omega) (fun j hj => by omega))
  · obtain ⟨j, j1, j2⟩ := z
    obtain ⟨g, v, a1, a2, a3, a4, a5⟩ := hj j j1
    have : g = f := (nI_eq (by omega) (by omega)).mp (a3.symm.trans j2)
    subst this
    rw [if_neg (by rw [a5]; exact nI_m1 (by omega))] at hq
    exact hq
  · rcases hf2 f (by omega) with y | y
    · rw [if_pos y] at hq; exact hq
    · exact absurd y z
def seenH (B : II) (F n : Nat) (cd : Nat → Nat × Int32) (I : II) (l : LL) (g : Nat) : Prop := ∀ u, u < 1000 → I 534 u = nI (fb_ct (fun j => decide (tvL B F n cd l g j = nI u)) l.1)
theorem l_wa0 (x : Int32) : ∀ (d k : Nat) (I : II), ro B I → I 46 0 = 0 → k + d = 1000 → (∀ u, u < k → I 534 u = 0) → (∀ J, ro B J → J 46 0 = 0 → (∀ u, u < 1000 → J 534 u = 0) → t_M_worstAt_16 E J T Q x 0 0) → t_M_worstAt_4 E I T Q x 0 (nI k)
  | 0, k, I, h, h0, hk, hz, hq => by
    unfold t_M_worstAt_4
    exact bq_t (nI_lt (a := 999) (b := k) (by omega) (by omega)) (hq I h h0 (fun u hu => hz u (by omega)))
  | d + 1, k, I, h, h0, hk, hz, hq => by
    unfold t_M_worstAt_4
    refine bq_f (nI_nlt (a := 999) (b := k) (by omega) (by omega)) ⟨gix (by omega) (by omega), ?_⟩
    rw [nI_clamp (by omega), nI_1]
    refine s_M_worstAt_4 (l_wa0 x d (k + 1) _ (h.trans (ro_up I (by decide) _ _)) h0 (by omega) (fun u hu => ?_) hq)
    rw [m_up_at]
    by_cases e : u = k
    · rw [if_pos e]
    · rw [if_neg e]; exact hz u (by omega)
theorem l_wa2 (hA : InvA B F S n cd) {s g : Nat} (hs : s < S) (hg : g < F) : ∀ (d f : Nat) (l : LL) (w : Nat) (I : II), ro B I → I 46 0 = 0 → seenH B F n cd I l g → isW (tvL B F n cd l g) l.1 w → l.1 ≤ 4 * s + fb_ct (inT (B 29)) f → f + d = F → (∀ J w', ro B J → J 46 0 = 0 → seenH B F n cd J (rep (ftS B F n cd s) d f l) g → isW (tvL B F n cd (rep (ftS B F n cd s) d f l) g) (rep (ftS B F n cd s) d f l).1 w' → (rep (ftS B F n cd s) d f l).1 ≤ 4 * (s + 1) → t_M_worstAt_16 E J T Q (nI g) (nI w') (nI (s + 1))) → t_M_worstAt_24 E I T Q (nI g) (nI w) (nI s) (nI f)
  | 0, f, l, w, I, h, h0, hs1, hw, hl, hf, hq => by
    have h8 := hA.1.F8
    have h4 := team4 h8 hA.1.rv.w
    have hf2 : f = F := by omega
    unfold t_M_worstAt_24
    rw [(hA.1.2.1.ro h).1, nI_1 s]
    refine bq_t (nI_le (by omega) (by omega)) (s_M_worstAt_16 (hq I w h h0 hs1 hw ?_))
    rw [hf2] at hl
    show l.1 ≤ _
    omega
  | d + 1, f, l, w, I, h, h0, hs1, hw, hl, hf, hq => by
    have h8 := hA.1.F8
    have h6 := hA.1.S6
    have h4 := team4 h8 hA.1.rv.w
    have hmono := fb_ct_mono (inT (B 29)) (show f + 1 ≤ F by omega)
    have hsucc := fb_ct_succ (inT (B 29)) f
    have e508 : I 508 = B 508 := h.cell (c := 508) (by decide)
    have hwl := isW_le hw
    unfold t_M_worstAt_24 t_M_worstAt_66
    rw [(hA.1.2.1.ro h).1, nI_1 f, z0, z16]
    refine bq_f (nI_ge (by omega) (by omega)) ⟨gix (by omega) (by omega), ?_⟩
    rw [nI_clamp (show f < 2 ^ 31 by omega), nI_clamp (show 16 + g < 2 ^ 31 by omega), e508, hA.1.q (by omega)]
    rw [rep] at hq
    refine ⟨fun c => ?_, fun c => ?_⟩
    · rw [ftS_no c] at hq
      exact s_M_worstAt_24 (l_wa2 hA hs hg d (f + 1) l w I h h0 hs1 hw (by omega) (by omega) hq)
    · have ct : inT (B 29) f = true := decide_eq_true c
      rw [ct] at hsucc
      simp only [if_true] at hsucc
      refine qk_isSo hA h hs (by omega) (fun J hJ hR k => ?_) (fun J hJ k => ?_)
      · rw [ftS_in c k] at hq
        have h2 : ro B J := h.trans (hJ.ro (by decide))
        have j0 : J 46 0 = 0 := by rw [hJ 46 (by decide)]; exact h0
        have js : seenH B F n cd J l g := by
          unfold seenH at hs1 ⊢
          rw [hJ 534 (by decide)]; exact hs1
        obtain ⟨t, ht, et⟩ := (soR_W hA.1 (s := s) (f := f) (by omega)).2.2.2 g hg
        have e9 : J 509 (16 + g) = nI t := by rw [hR.1 (16 + g) (by omega)]; exact et
        refine bq_f (by decide) ?_
        rw [e9]
        have gt : ¬ nI t < 0 ∧ (nI t).toNatClampNeg < 1000 := ⟨nI_pos (by omega), by rw [nI_clamp (by omega)]; omega⟩
        refine ⟨⟨nI_pos (by omega), by omega⟩, gt, gt, gt, ?_⟩
        rw [nI_clamp (by omega), m_up_at, if_pos rfl, js t (by omega), nI_1]
        have vm : tvL B F n cd (ftP l (s, f)) g l.1 = nI t := by
          show soR B F n cd (if l.1 = l.1 then (s, f) else l.2 l.1).1 (if l.1 = l.1 then (s, f) else l.2 l.1).2 (16 + g) = _
          rw [if_pos rfl]; exact et
        have vo : ∀ j, j < l.1 → tvL B F n cd (ftP l (s, f)) g j = tvL B F n cd l g j := fun j hj => by
          show soR B F n cd (if j = l.1 then (s, f) else l.2 j).1 (if j = l.1 then (s, f) else l.2 j).2 (16 + g) = _
          rw [if_neg (by omega)]; rfl
        have ec : ctE (tvL B F n cd (ftP l (s, f)) g) (l.1 + 1) l.1 = fb_ct (fun j => decide (tvL B F n cd l g j = nI t)) l.1 + 1 := by
          unfold ctE
          rw [fb_ct_succ, if_pos (decide_eq_true rfl)]
          congr 1
          refine fb_ct_cong (fun j hj => ?_)
          rw [vm, vo j hj]
          exact decide_eq_decide.mpr eq_comm
        have hcl := fb_ct_le (fun j => decide (tvL B F n cd l g j = nI t)) l.1
        refine p_more _ _ ?_
        have ew : (if nI w ≤ nI (fb_ct (fun j => decide (tvL B F n cd l g j = nI t)) l.1 + 1) then nI (fb_ct (fun j => decide (tvL B F n cd l g j = nI t)) l.1 + 1) else nI w) = nI (if w ≤ ctE (tvL B F n cd (ftP l (s, f)) g) (l.1 + 1) l.1 then ctE (tvL B F n cd (ftP l (s, f)) g) (l.1 + 1) l.1 else w) := by
          rw [ec]
          by_cases y : w ≤ fb_ct (fun j => decide (tvL B F n cd l g j = nI t)) l.1 + 1
          · rw [if_pos y, if_pos (nI_le y (by omega))]
          · rw [if_neg y, if_neg (nI_ge (by omega) (by omega))]
        rw [ew]
        refine s_M_worstAt_24 (l_wa2 hA hs hg d (f + 1) (ftP l (s, f)) _ _ (h2.trans (ro_up J (by decide) _ _)) j0 (fun u hu => ?_) (isW_push hw vo) (by show l.1 + 1 ≤ _; omega) (by omega) hq)
        rw [m_up_at]
        show _ = nI (fb_ct (fun j => decide (tvL B F n cd (ftP l (s, f)) g j = nI u)) (l.1 + 1))
        have ecg : fb_ct (fun j => decide (tvL B F n cd (ftP l (s, f)) g j = nI u)) l.1 = fb_ct (fun j => decide (tvL B F n cd l g j = nI u)) l.1 := fb_ct_cong (fun j hj => by rw [vo j hj])
        rw [fb_ct_succ, ecg, vm]
        by_cases y : u = t
        · subst y
          rw [if_pos rfl, if_pos (decide_eq_true rfl)]
        · rw [if_neg y, if_neg (by
            intro z
            exact y ((nI_eq (by omega) (by omega)).mp (of_decide_eq_true z)).symm), Nat.add_zero]
          exact js u hu
      · rw [ftS_out c k] at hq
        refine bq_t rfl ?_
        refine s_M_worstAt_24 (l_wa2 hA hs hg d (f + 1) l w J (h.trans (hJ.ro (by decide))) (by rw [hJ 46 (by decide)]; exact h0) ?_ hw (by omega) (by omega) hq)
        unfold seenH at hs1 ⊢
        rw [hJ 534 (by decide)]; exact hs1
theorem l_wa1 (hA : InvA B F S n cd) {g : Nat} (hg : g < F) : ∀ (d s : Nat) (l : LL) (w : Nat) (I : II), ro B I → I 46 0 = 0 → seenH B F n cd I l g → isW (tvL B F n cd l g) l.1 w → l.1 ≤ 4 * s → s + d = S → (∀ J, ro B J → J 46 0 = 0 → Q (.inl (some (.int (nI (wC (tvL B F n cd (rep (fun s l => rep (ftS B F n cd s) F 0 l) d s l) g) (rep (fun s l => rep (ftS B F n cd s) F 0 l) d s l).1))))) J T) → t_M_worstAt_16 E I T Q (nI g) (nI w) (nI s)
  | 0, s, l, w, I, h, h0, hs1, hw, hl, hs, hq => by
    have h6 := hA.1.S6
    unfold t_M_worstAt_16
    rw [(hA.1.2.1.ro h).2.2.1]
    refine bq_t (nI_le (by omega) (by omega)) ?_
    rw [isW_one hw (wC_isW _ _)]
    exact hq I h h0
  | d + 1, s, l, w, I, h, h0, hs1, hw, hl, hs, hq => by
    have h6 := hA.1.S6
    unfold t_M_worstAt_16
    rw [(hA.1.2.1.ro h).2.2.1]
    refine bq_f (nI_ge (by omega) (by omega)) ?_
    rw [rep] at hq
    exact l_wa2 hA (by omega) hg F 0 l w I h h0 hs1 hw (by show l.1 ≤ 4 * s + 0; omega) (by omega) (fun J w' hJ j0 js jw jl => l_wa1 hA hg d (s + 1) _ w' J hJ j0 js jw jl (by omega) hq)
theorem qk_worstAt (hA : InvA B F S n cd) (h : ro B I) (h0 : I 46 0 = 0) {g : Nat} (hg : g < F) (hq : ∀ J, ro B J → J 46 0 = 0 → Q (.inl (some (.int (nI (wC (tvL B F n cd (ftA B F S n cd) g) (ftA B F S n cd).1))))) J T) : ev E 261 0 [some (.ref 46), some (.int (nI g)), none, none, none, none] [] I T Q := by
  refine s_M_worstAt_0 ?_
  unfold t_M_worstAt_0
  refine l_wa0 _ 1000 0 I h h0 (by omega) (fun u hu => by omega) (fun J hJ j0 hz => ?_)
  exact l_wa1 hA hg S 0 (0, fun _ => (0, 0)) 0 J hJ j0 (fun u hu => hz u hu) ⟨fun i hi => absurd hi (Nat.not_lt_zero i), Or.inl rfl⟩ (by show 0 ≤ 0; omega) (by omega) hq
theorem l_mlook (hA : InvA B F S n cd) {j : Nat} (hj : j ≤ 1) : ∀ (d f : Nat) (a : Int32 × Int32) (I : II), ro B I → I 46 0 = 0 → f + d = F → (∀ J, ro B J → J 46 0 = 0 → Q (.inl (some (.int (pkR j (rep (lkS B F S n cd) d f a))))) J T) → t_M_look_24 E I T Q (nI j) a.1 a.2 (nI f)
  | 0, f, a, I, h, h0, hf, hq => by
    have h8 := hA.1.F8
    unfold t_M_look_24 t_M_look_57
    rw [(hA.1.2.1.ro h).1]
    refine bq_t (nI_le (by omega) (by omega)) ?_
    match j, hj with
    | 0, _ => exact bq_t rfl (hq I h h0)
    | 1, _ => exact bq_f (by decide) (hq I h h0)
  | d + 1, f, a, I, h, h0, hf, hq => by
    have h8 := hA.1.F8
    unfold t_M_look_24 t_M_look_46 t_M_look_50
    rw [(hA.1.2.1.ro h).1, nI_1]
    refine bq_f (nI_ge (by omega) (by omega)) ?_
    refine qk_isTold hA h (by omega) ?_
    rw [rep] at hq
    unfold lkS at hq
    by_cases c : B 21 f = -1
    · rw [if_pos c] at hq ⊢
      refine bq_t rfl ?_
      refine qk_worstAt hA h h0 (by omega) (fun J hJ j0 => ?_)
      refine ⟨fun q => ?_, fun q => ⟨fun q2 => ?_, fun q2 => ?_⟩⟩
      · rw [if_pos q] at hq
        exact s_M_look_24 (l_mlook hA hj d (f + 1) (nI f, nI (wC (tvL B F n cd (ftA B F S n cd) f) (ftA B F S n cd).1)) J hJ j0 (by omega) hq)
      · rw [if_neg q, if_neg (fa_of_lt q2).2.1] at hq
        exact s_M_look_24 (l_mlook hA hj d (f + 1) (nI f, nI (wC (tvL B F n cd (ftA B F S n cd) f) (ftA B F S n cd).1)) J hJ j0 (by omega) hq)
      · rw [if_neg q, if_pos (fa_of_nlt q2)] at hq
        exact s_M_look_24 (l_mlook hA hj d (f + 1) a J hJ j0 (by omega) hq)
    · rw [if_neg c] at hq ⊢
      exact bq_f (by decide) (s_M_look_24 (l_mlook hA hj d (f + 1) a I h h0 (by omega) hq))
theorem xq_look (hA : InvA B F S n cd) (hT : TG T) {j : Nat} (hj : j ≤ 1) (hq : ∀ J, ro B J → Q (.inl (some (.int (pkR j (rep (lkS B F S n cd) F 0 (-1, -1)))))) J T) : ev E 255 0 [some (.ref 0), some (.int (nI j)), none, none, none, none] [] B T Q := by
  have hC := hA.1
  have h8 := hC.F8
  have h6 := hC.S6
  refine s_X_look_0 ?_
  unfold t_X_look_0
  refine q_within _ _ _ ?_
  rw [show wI (nI j) 0 1 = 1 from wI_n (b := 1) hj (by decide)]
  refine q_need hT _ (fun _ => ?_) (fun q => absurd q (by decide))
  refine qk_gather hA (ro.refl B) (fun J hJ hg hm => ?_)
  exact l_xlook hA hJ hg hm hj F 0 (-1, -1) (by omega) (hq J hJ)
theorem mq_look (hA : InvA B F S n cd) (h : ro B I) {j : Nat} (hj : j ≤ 1) (hq : ∀ J, ro B J → J 46 0 = 0 → Q (.inl (some (.int (pkR j (rep (lkS B F S n cd) F 0 (-1, -1)))))) J T) : ev E 259 0 [some (.ref 46), some (.int (nI j)), none, none, none, none] [] I T Q := by
  have hC := hA.1
  have h8 := hC.F8
  have h6 := hC.S6
  have hI : ro B (m_up I 46 0 0) := h.trans (ro_thrown I 0)
  have h0 : (m_up I 46 0 0) 46 0 = 0 := rfl
  refine s_M_look_0 ?_
  unfold t_M_look_0 t_M_look_12
  refine q_in _ _ _ ?_
  rw [show wI (nI j) 0 1 = 1 from wI_n (b := 1) hj (by decide)]
  refine bq_f (by decide) ?_
  refine qm_bad0 rfl _ _ ?_
  refine bq_t rfl ?_
  exact l_mlook hA hj F 0 (-1, -1) _ hI h0 (by omega) hq
theorem xq_look_b0 (hA : InvA B F S n cd) (hT : TG T) {a1 : Int32} (c : ¬ okW a1 0 1) (hq : Q (.inr 1) (m_up B 0 15 (B 0 15 + 1)) (TX T)) : ev E 255 0 [some (.ref 0), some (.int (a1)), none, none, none, none] [] B T Q := by
  refine s_X_look_0 ?_
  unfold t_X_look_0
  refine q_within _ _ _ ?_
  rw [wI_f c]
  exact q_need hT _ (fun q => absurd rfl q) (fun _ => hq)
theorem mq_look_b0 (hm : mN I F S) {a1 : Int32} (c : ¬ okW a1 0 1) (hq : ∀ v J, ro (m_up I 48 1 (I 48 1 + 1)) J → J 46 0 = 1 → Q (.inl (some (.int v))) J T) : ev E 259 0 [some (.ref 46), some (.int (a1)), none, none, none, none] [] I T Q := by
  have hm2 : mN (m_up I 46 0 0) F S := hm
  refine s_M_look_0 ?_
  unfold t_M_look_0 t_M_look_12
  refine q_in _ _ _ ?_
  rw [wI_f c]
  refine bq_t rfl ?_
  refine qm_bad1 (j := 1) rfl (by decide) (by decide) ?_
  refine bq_f (by decide) ?_
  exact hq _ _ (ro_bad I _ _) rfl

theorem o_look : op_ok Inv E t_W_main_797 := by
  intro I T Q i m hI hT hm hi hL hn
  have hG := TI_g hT hm
  obtain ⟨F, S, n, cd, hA⟩ := hI
  unfold t_W_main_797
  generalize E.2.2 (nI i + 1).toNatClampNeg = a1
  refine ⟨gsc 1 hi hL (by decide), ?_⟩
  refine s_W_look_0 ?_
  unfold t_W_look_0 t_W_look_9
  by_cases c0 : okW a1 0 1
  · obtain ⟨j, hj, rfl⟩ := okW_nat (k := 1) (by decide) c0
    refine xq_look hA hG hj (fun J hJ => ?_)
    exact ⟨gsc 1 hi hL (by decide), mq_look hA hJ hj (fun K hK h0 => fin_ok h0 (fun _ => rfl) (hn K _ ⟨F, S, n, cd, hA.ro hK⟩ (TI_s hT)))⟩
  · refine xq_look_b0 hA hG  c0 ?_
    refine ⟨rfl, ?_⟩
    exact ⟨gsc 1 hi hL (by decide), mq_look_b0 (F := F) (S := S) (show mN (m_up I 0 15 (I 0 15 + 1)) F S from hA.1.2.1)  c0 (fun v J hJ h0 => fin_ok h0 (fun q => absurd q (by decide)) (hn J _ (Inv_thr (x := 1) (by decide) ⟨F, S, n, cd, hA⟩ rfl (ro.refl _) hJ) (TI_x hT)))⟩
end LOOK
