/-! ===== law: the reference's reader ===== -/
def fn (I J : II) : Prop := (∀ c, c ≠ 46 → ¬ (247 ≤ c ∧ c < 407) → J c = I c) ∧ ∀ j, j ≠ 4 → j ≠ 5 → j ≠ 6 → j ≠ 8 → j ≠ 20 → J 46 j = I 46 j
theorem fn.refl (I : II) : fn I I := ⟨fun _ _ _ => rfl, fun _ _ _ _ _ _ => rfl⟩
theorem fn.trans {I J K : II} (h : fn I J) (k : fn J K) : fn I K := ⟨fun c a b => (k.1 c a b).trans (h.1 c a b), fun j a b c d e => (k.2 j a b c d e).trans (h.2 j a b c d e)⟩
theorem fm.fn {I J : II} (h : fm I J) : fn I J := ⟨fun c h1 _ => h.1 c (by simpa using h1), fun j a b c _ _ => h.2 j a b c⟩
theorem fn_8 (I : II) (v : Int32) : fn I (m_up I 46 8 v) := ⟨fun c a _ => m_up_ne a, fun j _ _ _ h _ => by rw [m_up_at, if_neg h]⟩
def mq (J : II) (l : CL) : Prop := J 46 20 = nI l.length ∧ ∀ k, k < l.length → J (247 + k) 0 = nI (cdl l k).1 ∧ J (247 + k) 1 = (cdl l k).2
section LAWM
variable {E : MEnv} {I : II} {T : TT} {Q : QQ} {N : Nat} {w : Nat → Nat}
theorem mq_m {J : II} {l : CL} (hl : l.length ≤ 160) (f : fm I J) (h : mq I l) : mq J l := by
  refine ⟨by rw [f.2 20 (by omega) (by omega) (by omega)]; exact h.1, fun k hk => ?_⟩
  rw [f.1 (247 + k) (by simp; omega)]
  exact h.2 k hk
theorem mq_8 {J : II} {l : CL} {v : Int32} (h : mq J l) : mq (m_up J 46 8 v) l := by
  refine ⟨h.1, fun k hk => ?_⟩
  rw [m_up_ne (by omega)]
  exact h.2 k hk
theorem fm_8 {J : II} (f : fm I J) {x : Nat} (h : I 46 8 = nI x) : J 46 8 = nI x := by rw [f.2 8 (by omega) (by omega) (by omega)]; exact h
theorem fM_8 {J : II} {k q : Nat} {v : Int32} (h : fM J N w k q) : fM (m_up J 46 8 v) N w k q := by
  unfold fM mB at h ⊢
  rw [m_up_ne (show (47 : Nat) ≠ 46 by decide), m_up_at, if_neg (by omega), m_up_at, if_neg (by omega), m_up_at, if_neg (by omega), m_up_at, if_neg (by omega), m_up_at, if_neg (by omega)]
  exact h
theorem qn_notes {J : II} {p : Nat} {l : CL} {c : Nat × Int32} {x y : Int32} (hx : x = nI c.1) (hy : y = c.2) (t : tM J N w p) (h : mq J l) (hk : l.length < 160) (hq : ∀ K, fn J K → tM K N w p → mq K (c :: l) → K 46 8 = J 46 8 → Q (.inl none) K T) : ev E 90 0 [some (.ref 46), some (.int x), some (.int y)] [] J T Q := by
  subst hx hy
  refine s_M_notes_0 ?_
  unfold t_M_notes_0
  refine bq_t t.2.2.2.1 ?_
  rw [h.1, nI_clamp (by omega)]
  refine ⟨⟨nI_pos (by omega), hk⟩, ?_⟩
  have e1 : (m_up J (247 + l.length) 0 (nI c.1)) 46 20 = nI l.length := by rw [m_up_ne (by omega)]; exact h.1
  rw [e1, nI_clamp (by omega)]
  refine ⟨⟨nI_pos (by omega), hk⟩, ?_⟩
  have e2 : (m_up (m_up J (247 + l.length) 0 (nI c.1)) (247 + l.length) 1 c.2) 46 20 = nI l.length := by rw [m_up_ne (by omega), m_up_ne (by omega)]; exact h.1
  rw [e2, nI_1]
  refine hq _ ⟨fun d a b => ?_, fun j a b c' d e => ?_⟩ (tM_7 (by omega) (tM_up (by omega) (by omega) (tM_up (by omega) (by omega) t))) ⟨rfl, fun k hk' => ?_⟩ ?_
  · rw [m_up_ne a, m_up_ne (by omega), m_up_ne (by omega)]
  · rw [m_up_at, if_neg e, m_up_ne (by omega), m_up_ne (by omega)]
  · rw [List.length_cons] at hk'
    rw [m_up_ne (by omega), cdl]
    by_cases z : k = l.length
    · rw [if_pos z, z, m_up_at, if_neg (by omega), m_up_at, if_pos rfl, m_up_at, if_pos rfl]
      exact ⟨rfl, rfl⟩
    · rw [if_neg z, m_up_ne (by omega), m_up_ne (by omega)]
      exact h.2 k (by omega)
  · rw [m_up_at, if_neg (by omega), m_up_ne (by omega), m_up_ne (by omega)]
theorem qn_notes_f {J : II} {k q : Nat} {x y : Int32} (g : fM J N w k q) (hq : Q (.inl none) J T) : ev E 90 0 [some (.ref 46), some (.int x), some (.int y)] [] J T Q := by
  refine s_M_notes_0 ?_
  unfold t_M_notes_0
  exact bq_f (fM_ne g) hq
theorem qn_one_f {e : Nat} {X : Nat × (Nat → Int32)} {k q : Nat} (g : fM I N w k q) (hq : Q (.inl none) I T) : ev (e + 1, X) 88 0 [some (.ref 46), none, none] [] I T Q := by
  refine s_M_one_0 ?_
  unfold t_M_one_0
  exact bq_f (fM_ne g) hq
theorem qn_prd_f {e : Nat} {X : Nat × (Nat → Int32)} {k q : Nat} (g : fM I N w k q) (hq : Q (.inl none) I T) : ev (e + 1, X) 87 0 [some (.ref 46), none] [] I T Q := by
  refine s_M_product_0 ?_
  unfold t_M_product_0 t_M_product_2
  exact qn_one_f g (bq_f (fM_ne g) hq)
theorem qn_sum_f {e : Nat} {X : Nat × (Nat → Int32)} {k q : Nat} (g : fM I N w k q) (hq : Q (.inl none) I T) : ev (e + 1, X) 86 0 [some (.ref 46), none] [] I T Q := by
  refine s_M_sum_0 ?_
  unfold t_M_sum_0 t_M_sum_2
  exact qn_prd_f g (bq_f (fM_ne g) hq)
theorem qn_opens {J : II} {p x : Nat} (t : tM J N w p) (h8 : J 46 8 = nI x) (hx : x ≤ 6) (h1 : x < 6 → Q (.inl (some (.int 1))) (m_up J 46 8 (nI (x + 1))) T) (h0 : ¬ x < 6 → ∀ K, fm J K → fM K N w 3 p → Q (.inl (some (.int 0))) K T) : ev E 89 0 [some (.ref 46)] [] J T Q := by
  refine s_M_opensOne_0 ?_
  unfold t_M_opensOne_0 t_M_opensOne_13 t_M_opensOne_22 t_M_opensOne_28
  refine bq_t t.2.2.2.1 ?_
  rw [h8, t.2.2.1, nI_1]
  by_cases c : x < 6
  · refine bq_f (fun z => absurd ((nI_eq (a := x) (b := 6) (by omega) (by omega)).mp z) (by omega)) ?_
    exact bq_t t.2.2.2.1 (bq_t t.2.2.2.1 ⟨Or.inr rfl, h1 c⟩)
  · have e6 : x = 6 := by omega
    refine bq_t (by rw [e6]; rfl) ?_
    refine qn_wrong_t (k := 3) t (by omega) (fun K f g => ?_)
    exact bq_f (fM_ne g) ⟨Or.inl rfl, h0 c K f g⟩
theorem qn_skipW {J : II} {p : Nat} (t : tM J N w p) (hq : Q (.inl none) (m_up J 46 4 (nI (le N w p))) T) : ev E 70 0 [some (.ref 46)] [] J T Q := by
  have hp := t.2.1
  have := qn_skipWord (E := E) (I := J) t.1 (N - p) p (by omega) hq
  rw [up_same t.2.2.1] at this
  exact this
theorem qn_tkW {a b c d e f p : Nat} (hs : a ≤ 26 ∧ b ≤ 26 ∧ c ≤ 26 ∧ d ≤ 26 ∧ e ≤ 26 ∧ f ≤ 26) {t : List Nat} (ht : sixV a b c d e f = er t) (hl : t.length ≤ 6) (htl : ∀ x, x ∈ t → 97 ≤ x ∧ x ≤ 122) (h : tM I N w p) (h1 : wd N w p = t → Q (.inl (some (.int 1))) (m_up I 46 4 (nI (le N w (bl N w p)))) T) (h0 : wd N w p ≠ t → Q (.inl (some (.int 0))) (m_up I 46 4 (nI (bl N w p))) T) : ev E 92 0 [some (.ref 46), some (.int (nI a)), some (.int (nI b)), some (.int (nI c)), some (.int (nI d)), some (.int (nI e)), some (.int (nI f)), none] [] (m_up I 46 4 (nI (bl N w p))) T Q := by
  have tb := tM_at h (bl_le (w := w) h.2.1).2
  refine qn_takes hs ht hl htl tb (fun y => ?_) (fun y => ?_)
  · rw [wd_bl h.2.1] at y
    rw [up_up, bl_bl h.2.1]
    exact h1 y
  · rw [wd_bl h.2.1] at y
    rw [up_up, bl_bl h.2.1]
    exact h0 y
theorem qn_tk2 {p c : Nat} (hc : c < 256) (h : tM I N w p) (h1 : bl N w p < N ∧ w (bl N w p) = c → Q (.inl (some (.int 1))) (m_up I 46 4 (nI (bl N w p + 1))) T) (h0 : ¬ (bl N w p < N ∧ w (bl N w p) = c) → Q (.inl (some (.int 0))) (m_up I 46 4 (nI (bl N w p))) T) : ev E 93 0 [some (.ref 46), some (.int (nI c)), none] [] (m_up I 46 4 (nI (bl N w p))) T Q := by
  have tb := tM_at h (bl_le (w := w) h.2.1).2
  refine qn_takes_t hc tb (fun y => ?_) (fun y => ?_)
  · rw [bl_bl h.2.1] at y
    rw [up_up, bl_bl h.2.1]
    exact h1 y
  · rw [bl_bl h.2.1] at y
    rw [up_up, bl_bl h.2.1]
    exact h0 y
theorem kx_get {x : List Nat} : ∀ (L : List (List Nat)) (a i : Nat), kx L x a = some i → L[i - a]? = some x
  | [], a, i, h => by cases h
  | y :: L, a, i, h => by
    have hlt := kx_lt (y :: L) a i h
    rw [kx] at h
    by_cases c : x = y
    · rw [if_pos c] at h
      injection h with h
      rw [← h, Nat.sub_self, c]
      rfl
    · rw [if_neg c] at h
      have h2 := (kx_lt L (a + 1) i h).1
      have := kx_get L (a + 1) i h
      rw [show i - a = (i - (a + 1)) + 1 by omega]
      exact this
theorem wd_first {p : Nat} (hp : p ≤ N) (h : 0 < (wd N w p).length) : ¬ isD N w (bl N w p) ∧ ¬ (bl N w p < N ∧ w (bl N w p) = 40) := by
  have hb := bl_le (w := w) hp
  have := le_in (N := N) (w := w) (N - bl N w p) (bl N w p) (by omega) (bl N w p) (by omega) (wd_pos hp h)
  refine ⟨fun z => ?_, fun z => ?_⟩
  · have := z.2; omega
  · have := z.2; omega
theorem qn_known {p : Nat} (h : tM I N w p) (h1 : ∀ i, kx W4 (wd N w p) 0 = some i → i < 8 → Q (.inl (some (.int (nI i)))) (m_up I 46 4 (nI (le N w (bl N w p)))) T) (h0 : (∀ i, kx W4 (wd N w p) 0 = some i → 8 ≤ i) → Q (.inl (some (.int (-1)))) (m_up I 46 4 (nI (bl N w p))) T) : ev E 91 0 [some (.ref 46)] [] (m_up I 46 4 (nI (bl N w p))) T Q := by
  refine s_M_knownHere_0 ?_
  unfold t_M_knownHere_0 t_M_knownHere_89
  refine qn_tkW (a := 16) (b := 21) (c := 12) (d := 12) (e := 0) (f := 0) (t := [108, 108, 117, 112]) (by omega) (by decide) (by decide) (by decide) h (fun y0 => ?_) (fun y0 => ?_)
  · exact bq_f (by decide) (h1 0 (by rw [W4, kx, if_pos y0]) (by omega))
  · refine bq_t rfl ?_
    refine qn_tkW (a := 19) (b := 20) (c := 5) (d := 1) (e := 4) (f := 25) (t := [121, 100, 97, 101, 116, 115]) (by omega) (by decide) (by decide) (by decide) h (fun y1 => ?_) (fun y1 => ?_)
    · exact bq_f (by decide) (h1 1 (by rw [W4, kx, if_neg y0, kx, if_pos y1]) (by omega))
    · refine bq_t rfl ?_
      refine qn_tkW (a := 20) (b := 9) (c := 7) (d := 8) (e := 20) (f := 0) (t := [116, 104, 103, 105, 116]) (by omega) (by decide) (by decide) (by decide) h (fun y2 => ?_) (fun y2 => ?_)
      · exact bq_f (by decide) (h1 2 (by rw [W4, kx, if_neg y0, kx, if_neg y1, kx, if_pos y2]) (by omega))
      · refine bq_t rfl ?_
        refine qn_tkW (a := 20) (b := 9) (c := 18) (d := 5) (e := 4) (f := 0) (t := [100, 101, 114, 105, 116]) (by omega) (by decide) (by decide) (by decide) h (fun y3 => ?_) (fun y3 => ?_)
        · exact bq_f (by decide) (h1 3 (by rw [W4, kx, if_neg y0, kx, if_neg y1, kx, if_neg y2, kx, if_pos y3]) (by omega))
        · refine bq_t rfl ?_
          refine qn_tkW (a := 16) (b := 12) (c := 1) (d := 3) (e := 5) (f := 0) (t := [101, 99, 97, 108, 112]) (by omega) (by decide) (by decide) (by decide) h (fun y4 => ?_) (fun y4 => ?_)
          · exact bq_f (by decide) (h1 4 (by rw [W4, kx, if_neg y0, kx, if_neg y1, kx, if_neg y2, kx, if_neg y3, kx, if_pos y4]) (by omega))
          · refine bq_t rfl ?_
            refine qn_tkW (a := 19) (b := 20) (c := 1) (d := 7) (e := 5) (f := 0) (t := [101, 103, 97, 116, 115]) (by omega) (by decide) (by decide) (by decide) h (fun y5 => ?_) (fun y5 => ?_)
            · exact bq_f (by decide) (h1 5 (by rw [W4, kx, if_neg y0, kx, if_neg y1, kx, if_neg y2, kx, if_neg y3, kx, if_neg y4, kx, if_pos y5]) (by omega))
            · refine bq_t rfl ?_
              refine qn_tkW (a := 20) (b := 5) (c := 1) (d := 13) (e := 0) (f := 0) (t := [109, 97, 101, 116]) (by omega) (by decide) (by decide) (by decide) h (fun y6 => ?_) (fun y6 => ?_)
              · exact bq_f (by decide) (h1 6 (by rw [W4, kx, if_neg y0, kx, if_neg y1, kx, if_neg y2, kx, if_neg y3, kx, if_neg y4, kx, if_neg y5, kx, if_pos y6]) (by omega))
              · refine bq_t rfl ?_
                refine qn_tkW (a := 4) (b := 1) (c := 25) (d := 0) (e := 0) (f := 0) (t := [121, 97, 100]) (by omega) (by decide) (by decide) (by decide) h (fun y7 => ?_) (fun y7 => ?_)
                · exact bq_f (by decide) (h1 7 (by rw [W4, kx, if_neg y0, kx, if_neg y1, kx, if_neg y2, kx, if_neg y3, kx, if_neg y4, kx, if_neg y5, kx, if_neg y6, kx, if_pos y7]) (by omega))
                · refine bq_t rfl (h0 (fun i hi => ?_))
                  rw [W4, kx, if_neg y0, kx, if_neg y1, kx, if_neg y2, kx, if_neg y3, kx, if_neg y4, kx, if_neg y5, kx, if_neg y6, kx, if_neg y7] at hi
                  exact (kx_lt _ 8 i hi).1

/-- a reader's contract, by the reference -/
def MC (E : MEnv) (N : Nat) (w : Nat → Nat) (K : Nat) (loc : List (Option Value)) (x : Nat) (f : Nat → CL → CR) (m : Nat) : Prop := ∀ (I : II) (T : TT) (Q : QQ) (p : Nat) (l : CL), tM I N w p → okl l → dp l ≤ m → l.length ≤ p → mq I l → I 46 8 = nI x → (∀ l' p', f p l = .inr (l', p') → ∀ J, fn I J → tM J N w p' → mq J l' → J 46 8 = nI x → Q (.inl none) J T) → (∀ k q, f p l = .inl (k, q) → ∀ J, fn I J → fM J N w k q → Q (.inl none) J T) → ev E K 0 loc [] I T Q
theorem mB_8 {J : II} {p : Nat} {v : Int32} (t : tM J N w p) : tM (m_up J 46 8 v) N w p := tM_7 (by omega) t
theorem m_unt {e : Nat} {X : Nat × (Nat → Int32)} {S : Nat → CL → CR} {x m : Nat} {g : Bool} (hx : g = decide (x < 6)) (hx6 : x ≤ 6) (hN : N ≤ 150) (hm : m ≤ 22) (he : 0 < e) (hS : g = true → MC (e, X) N w 86 [some (.ref 46), none] (x + 1) S (m + 1)) (hg : g = true → gd N S (m + 1)) : MC (e + 1, X) N w 88 [some (.ref 46), none, none] x (untR N w S g) m := by
  intro I T Q p l t hl hd hk h h8 h1 h0
  have hp := t.2.1
  have hb := bl_le (w := w) hp
  have hle := le_le (w := w) hb.2
  have hw : bl N w p < N → w (bl N w p) < 256 := fun q => (t.1.2.2.2 _ q).1
  have tb := tM_at t hb.2
  have fb : fm I (m_up I 46 4 (nI (bl N w p))) := fm_4 _ _
  have qb := mq_m (by omega) fb h
  have sumf : ∀ {J : II} {Q : QQ} {k q : Nat}, fM J N w k q → Q (.inl none) J T → ev (e, X) 86 0 [some (.ref 46), none] [] J T Q := fun gJ hq => by
    match e, he with
    | e + 1, _ => exact qn_sum_f gJ hq
  refine s_M_one_0 ?_
  unfold t_M_one_0
  refine bq_t t.2.2.2.1 ?_
  refine qn_blanks t.1 hp t.2.2.1 ?_
  -- least, most
  have chc : ∀ i, 8 ≤ i → i < 10 → kx W4 (wd N w p) 0 = some i → t_M_one_29 e X (m_up I 46 4 (nI (bl N w p))) T Q (nI (i - 1)) := fun i hi1 hi2 ei => by
    have wl := (kx4 ei).2
    have hwp := wd_pos hp wl
    obtain ⟨nD, n40⟩ := wd_first hp wl
    unfold t_M_one_29
    refine bq_f (nI_m1 (by omega)) ?_
    refine qn_opens tb (x := x) (fm_8 fb h8) hx6 (fun c => ?_) (fun c K f gK => ?_)
    · have gt : g = true := by rw [hx]; exact decide_eq_true c
      subst gt
      rw [unt_c nD n40 ei (by omega)] at h1 h0
      refine bq_f (by decide) ?_
      have t0 : tM (m_up (m_up I 46 4 (nI (bl N w p))) 46 8 (nI (x + 1))) N w (bl N w p) := mB_8 tb
      refine qn_skipW t0 ?_
      generalize hJ0 : m_up (m_up (m_up I 46 4 (nI (bl N w p))) 46 8 (nI (x + 1))) 46 4 (nI (le N w (bl N w p))) = J0
      have tJ0 : tM J0 N w (le N w (bl N w p)) := by rw [← hJ0]; exact tM_at t0 hle.2
      have fJ0 : fn I J0 := by rw [← hJ0]; exact (fb.fn.trans (fn_8 _ _)).trans (fm_4 _ _).fn
      have q0 : mq J0 l := by rw [← hJ0]; exact mq_m (by omega) (fm_4 _ _) (mq_8 qb)
      have e80 : J0 46 8 = nI (x + 1) := by rw [← hJ0]; rfl
      have endf : ∀ {K : II} {k q : Nat}, fn I K → fM K N w k q → chcR N w S (i - 1) (le N w (bl N w p)) l = .inl (k, q) → ev (e + 1, X) 90 0 [some (.ref 46), some (.int (nI (i - 1))), some (.int 0)] [] K T (KV (fun I16 T16 => Q (.inl none) (m_up I16 46 8 ((I16 46 8) - 1)) T16) (fun x I1 T1 => Q (.inr x) I1 T1)) := fun fK gK eK => qn_notes_f gK (h0 _ _ eK _ (fK.trans (fn_8 _ _)) (fM_8 gK))
      refine qn_sign_t (c := 91) (by omega) tJ0 (fun p1 e1 J1 f1 t1 => ?_) (fun k q e1 J1 f1 g1 => ?_)
      · have r1 := sgnR_pos hle.2 e1
        refine hS rfl _ _ _ p1 l t1 hl (by omega) (by omega) (mq_m (by omega) f1 q0) (fm_8 f1 e80) (fun l1 p2 e2 J2 f2 t2 q2 e82 => ?_) (fun k q e2 J2 f2 g2 => ?_)
        · obtain ⟨a1, a2, a3, a4, a5⟩ := hg rfl _ _ _ _ r1.2 hl (by omega) e2
          have fr2 : fn I J2 := (fJ0.trans f1.fn).trans f2
          refine qn_sign_t (c := 44) (by omega) t2 (fun p3 e3 J3 f3 t3 => ?_) (fun k q e3 J3 f3 g3 => ?_)
          · have r3 := sgnR_pos a5 e3
            refine hS rfl _ _ _ p3 l1 t3 a1 (by omega) (by omega) (mq_m (by omega) f3 q2) (fm_8 f3 e82) (fun l2 p4 e4 J4 f4 t4 q4 e84 => ?_) (fun k q e4 J4 f4 g4 => ?_)
            · obtain ⟨b1, b2, b3, b4, b5⟩ := hg rfl _ _ _ _ r3.2 a1 (by omega) e4
              have fr4 : fn I J4 := (fr2.trans f3.fn).trans f4
              refine qn_sign_t (c := 93) (by omega) t4 (fun p5 e5 J5 f5 t5 => ?_) (fun k q e5 J5 f5 g5 => ?_)
              · have r5 := sgnR_pos b5 e5
                refine qn_notes (c := (i - 1, 0)) rfl rfl t5 (mq_m (by omega) f5 q4) (by omega) (fun K fK tK qK e8K => ?_)
                have e8 : K 46 8 - 1 = nI x := by rw [e8K, fm_8 f5 e84]; exact nI_pred x
                show Q (.inl none) (m_up K 46 8 (K 46 8 - 1)) T
                rw [e8]
                exact h1 _ p5 (by unfold chcR; rw [bndR_r e1, bndR_r e2, bndR_r e3, bndR_r e4]; exact mapR_r e5) _ (((fr4.trans f5.fn).trans fK).trans (fn_8 _ _)) (mB_8 tK) (mq_8 qK) rfl
              · exact endf (fr4.trans f5.fn) g5 (by unfold chcR; rw [bndR_r e1, bndR_r e2, bndR_r e3, bndR_r e4]; exact mapR_l e5)
            · refine qn_sign_f _ g4 ?_
              exact endf ((fr2.trans f3.fn).trans f4) g4 (by unfold chcR; rw [bndR_r e1, bndR_r e2, bndR_r e3]; exact bndR_l e4)
          · refine sumf g3 ?_
            refine qn_sign_f _ g3 ?_
            exact endf (fr2.trans f3.fn) g3 (by unfold chcR; rw [bndR_r e1, bndR_r e2]; exact bndR_l e3)
        · refine qn_sign_f _ g2 ?_
          refine sumf g2 ?_
          refine qn_sign_f _ g2 ?_
          exact endf ((fJ0.trans f1.fn).trans f2) g2 (by unfold chcR; rw [bndR_r e1]; exact bndR_l e2)
      · refine sumf g1 ?_
        refine qn_sign_f _ g1 ?_
        refine sumf g1 ?_
        refine qn_sign_f _ g1 ?_
        exact endf (fJ0.trans f1.fn) g1 (bndR_l e1)
    · have gf : g = false := by rw [hx]; exact decide_eq_false c
      subst gf
      rw [unt_c3 nD n40 ei (by omega)] at h0
      exact bq_t rfl (h0 3 _ rfl K (fb.fn.trans f.fn) gK)
  refine qn_isW (a := 12) (b := 5) (c := 1) (d := 19) (e := 20) (f := 0) (t := [116, 115, 97, 101, 108]) (by omega) (by decide) (by decide) (by decide) t (fun y8 => ?_) (fun y8 => ?_)
  · exact bq_f (by decide) (chc 8 (by omega) (by omega) (by rw [y8]; decide))
  · refine bq_t rfl ?_
    refine qn_isW (a := 13) (b := 15) (c := 19) (d := 20) (e := 0) (f := 0) (t := [116, 115, 111, 109]) (by omega) (by decide) (by decide) (by decide) t (fun y9 => ?_) (fun y9 => ?_)
    · exact bq_f (by decide) (chc 9 (by omega) (by omega) (by rw [y9]; decide))
    · refine bq_t rfl ?_
      unfold t_M_one_29 t_M_one_109
      refine bq_t rfl ?_
      show ev (e + 1, X) 61 0 [some (.ref 46), some (.int (nI (bl N w p)))] [] _ T _
      refine qn_byteAt tb.1 (by omega) ?_
      have k10 : ∀ i, kx W4 (wd N w p) 0 = some i → i < 8 := fun i hi => by
        have a := kx_get W4 0 i hi
        have b := (kx4 hi).1
        by_cases z8 : i = 8
        · subst z8
          have : some [116, 115, 97, 101, 108] = some (wd N w p) := a
          injection this with this
          exact absurd this.symm y8
        · by_cases z9 : i = 9
          · subst z9
            have : some [116, 115, 111, 109] = some (wd N w p) := a
            injection this with this
            exact absurd this.symm y9
          · omega
      by_cases k40 : bl N w p < N ∧ w (bl N w p) = 40
      · have nD : ¬ isD N w (bl N w p) := fun z => by have := z.2; omega
        refine bq_t ((cv_eq (c := 40) (by omega) hw).mpr k40) ?_
        refine qn_opens tb (x := x) (fm_8 fb h8) hx6 (fun c => ?_) (fun c K f gK => ?_)
        · have gt : g = true := by rw [hx]; exact decide_eq_true c
          subst gt
          rw [unt_b nD k40] at h1 h0
          refine bq_f (by decide) ?_
          have e4 : (m_up (m_up I 46 4 (nI (bl N w p))) 46 8 (nI (x + 1))) 46 4 + 1 = nI (bl N w p + 1) := by show nI (bl N w p) + 1 = _; exact nI_1 _
          show ev (e, X) 86 0 [some (.ref 46), none] [] (m_up (m_up (m_up I 46 4 (nI (bl N w p))) 46 8 (nI (x + 1))) 46 4 ((m_up (m_up I 46 4 (nI (bl N w p))) 46 8 (nI (x + 1))) 46 4 + 1)) T _
          rw [e4]
          generalize hJ0 : m_up (m_up (m_up I 46 4 (nI (bl N w p))) 46 8 (nI (x + 1))) 46 4 (nI (bl N w p + 1)) = J0
          have tJ0 : tM J0 N w (bl N w p + 1) := by rw [← hJ0]; exact tM_at (mB_8 tb) (by omega)
          have fJ0 : fn I J0 := by rw [← hJ0]; exact (fb.fn.trans (fn_8 _ _)).trans (fm_4 _ _).fn
          have q0 : mq J0 l := by rw [← hJ0]; exact mq_m (by omega) (fm_4 _ _) (mq_8 qb)
          have e80 : J0 46 8 = nI (x + 1) := by rw [← hJ0]; rfl
          refine hS rfl _ _ _ (bl N w p + 1) l tJ0 hl (by omega) (by omega) q0 e80 (fun l1 p1 e1 J1 f1 t1 q1 e81 => ?_) (fun k q e1 J1 f1 g1 => ?_)
          · obtain ⟨a1, a2, a3, a4, a5⟩ := hg rfl _ _ _ _ (by omega) hl (by omega) e1
            refine qn_sign_t (c := 41) (by omega) t1 (fun p2 e2 J2 f2 t2 => ?_) (fun k q e2 J2 f2 g2 => ?_)
            · have e8 : J2 46 8 - 1 = nI x := by rw [fm_8 f2 e81]; exact nI_pred x
              show Q (.inl none) (m_up J2 46 8 (J2 46 8 - 1)) T
              rw [e8]
              exact h1 _ p2 (by unfold brkR; rw [bndR_r e1]; exact mapR_r e2) _ (((fJ0.trans f1).trans f2.fn).trans (fn_8 _ _)) (mB_8 t2) (mq_8 (mq_m (by omega) f2 q1)) rfl
            · exact h0 k q (by unfold brkR; rw [bndR_r e1]; exact mapR_l e2) _ (((fJ0.trans f1).trans f2.fn).trans (fn_8 _ _)) (fM_8 g2)
          · refine qn_sign_f _ g1 ?_
            exact h0 k q (bndR_l e1) _ ((fJ0.trans f1).trans (fn_8 _ _)) (fM_8 g1)
        · have gf : g = false := by rw [hx]; exact decide_eq_false c
          subst gf
          rw [unt_b3 nD k40] at h0
          exact bq_t rfl (h0 3 _ rfl K (fb.fn.trans f.fn) gK)
      · refine bq_f (fun z => k40 ((cv_eq (c := 40) (by omega) hw).mp z)) ?_
        refine qn_known t (fun i ei i8 => ?_) (fun hno => ?_)
        · have wl := (kx4 ei).2
          have hwp := wd_pos hp wl
          obtain ⟨nD, n40⟩ := wd_first hp wl
          rw [unt_w nD n40 ei i8] at h1
          refine bq_f (nI_m1 (by omega)) ?_
          refine qn_notes (c := (1, nI i)) rfl rfl (tM_at t hle.2) (mq_m (by omega) (fm_4 _ _) h) (by omega) (fun K fK tK qK e8K => ?_)
          exact h1 _ _ rfl K ((fm_4 _ _).fn.trans fK) tK qK (by rw [e8K]; exact fm_8 (fm_4 _ _) h8)
        · have en : kx W4 (wd N w p) 0 = none := by
            cases e : kx W4 (wd N w p) 0 with
            | none => rfl
            | some i => exact absurd (hno i e) (by have := k10 i e; omega)
          refine bq_t rfl ?_
          refine qn_num_t (lo := 0) (hi := 1000) (by omega) (by omega) tb (fun v p1 e1 J f1 t1 => ?_) (fun k q e1 J f1 g1 => ?_)
          · rw [numR_bl hp] at e1
            have hD : isD N w (bl N w p) := Classical.byContradiction (fun z => by rw [numR_1 z] at e1; cases e1)
            rw [unt_n hD] at h1
            refine qn_notes (c := (0, nI v)) rfl rfl t1 (mq_m (by omega) f1 qb) (by omega) (fun K fK tK qK e8K => ?_)
            exact h1 _ p1 (mapR_r e1) K ((fb.fn.trans f1.fn).trans fK) tK qK (by rw [e8K]; exact fm_8 f1 (fm_8 fb h8))
          · rw [numR_bl hp] at e1
            refine qn_notes_f g1 ?_
            by_cases hD : isD N w (bl N w p)
            · rw [unt_n hD] at h0
              exact h0 k q (mapR_l e1) J (fb.fn.trans f1.fn) g1
            · rw [unt_w1 hD k40 en] at h0
              rw [numR_1 hD] at e1
              exact h0 k q (by injection e1 with e1; rw [e1]) J (fb.fn.trans f1.fn) g1
theorem lm_product {U : Nat → CL → CR} {x m : Nat} (hN : N ≤ 150) (hm : m ≤ 22) (hU : MC E N w 88 [some (.ref 46), none, none] x U (m + 1)) (hg : gd N U (m + 1)) : ∀ (d x3 p : Nat) (l : CL) (J : II), x3 + d = 151 → x3 < p → tM J N w p → okl l → 1 ≤ dp l → dp l ≤ m + 1 → l.length ≤ p → mq J l → J 46 8 = nI x → fn I J → (∀ l' p', lopR N w opP U d p l = .inr (l', p') → ∀ K, fn I K → tM K N w p' → mq K l' → K 46 8 = nI x → Q (.inl none) K T) → (∀ k q, lopR N w opP U d p l = .inl (k, q) → ∀ K, fn I K → fM K N w k q → Q (.inl none) K T) → t_M_product_2 E J T Q
  | 0, x3, p, l, J, hd, hx, t, _, _, _, _, _, _, _, _, _ => absurd t.2.1 (by omega)
  | d + 1, x3, p, l, J, hd, hx, t, hl, d1, d2, hk, hq, h8, fr, h1, h0 => by
    have hp := t.2.1
    have hb := bl_le (w := w) hp
    unfold t_M_product_2
    refine bq_t t.2.2.2.1 ?_
    have go : ∀ (c : Nat) (y : Int32), bl N w p < N → opAt N w opP p = some c → y = nI c → t_M_product_24 E (m_up J 46 4 (nI (bl N w p + 1))) T Q y := fun c y hlt ho hy => by
      rw [lop_s ho] at h1 h0
      have hc := (op_in opP_ok ho).2
      unfold t_M_product_24
      refine bq_f (by rw [hy]; exact nI_m1 (by omega)) ?_
      have t2 := tM_at t (p' := bl N w p + 1) (by omega)
      have f2 : fm J (m_up J 46 4 (nI (bl N w p + 1))) := fm_4 _ _
      refine hU _ _ _ (bl N w p + 1) l t2 hl (by omega) (by omega) (mq_m (by omega) f2 hq) (fm_8 f2 h8) (fun l1 p1 e1 J1 g1 s1 q1 e81 => ?_) (fun k q e1 J1 g1 s1 => ?_)
      · obtain ⟨a1, a2, a3, a4, a5⟩ := hg _ _ _ _ (by omega) hl (by omega) e1
        rw [bndR_r e1] at h1 h0
        have dd : dp ((c, 0) :: l1) = dp l := by rw [dp, if_neg (by show ¬ c ≤ 1; omega)]; omega
        refine qn_notes (c := (c, 0)) hy rfl s1 q1 (by omega) (fun K fK tK qK e8K => ?_)
        exact s_M_product_2 (lm_product hN hm hU hg d (x3 + 1) p1 ((c, 0) :: l1) K (by omega) (by omega) tK ⟨a1, Or.inr ⟨hc.1, hc.2, by omega, by omega⟩⟩ (by omega) (by omega) (by rw [List.length_cons]; omega) qK (by rw [e8K]; exact e81) (((fr.trans f2.fn).trans g1).trans fK) h1 h0)
      · refine qn_notes_f s1 ?_
        refine s_M_product_2 ?_
        unfold t_M_product_2
        exact bq_f (fM_ne s1) (h0 k q (bndR_l e1) J1 ((fr.trans f2.fn).trans g1) s1)
    refine qn_takes_t (c := 42) (by omega) t (fun c42 => ?_) (fun c42 => ?_)
    · exact bq_f (by decide) (go 4 4 c42.1 (by rw [op_of c42.1 c42.2]; rfl) rfl)
    · refine bq_t rfl ?_
      refine qn_tk2 (c := 47) (by omega) t (fun c47 => ?_) (fun c47 => ?_)
      · exact bq_f (by decide) (go 5 5 c47.1 (by rw [op_of c47.1 c47.2]; rfl) rfl)
      · refine bq_t rfl ?_
        refine qn_tk2 (c := 37) (by omega) t (fun c37 => ?_) (fun c37 => ?_)
        · exact bq_f (by decide) (go 6 6 c37.1 (by rw [op_of c37.1 c37.2]; rfl) rfl)
        · refine bq_t rfl ?_
          have ho : opAt N w opP p = none := by
            by_cases z : bl N w p < N
            · rw [op_of z rfl]
              have n42 : w (bl N w p) ≠ 42 := fun e => c42 ⟨z, e⟩
              have n47 : w (bl N w p) ≠ 47 := fun e => c47 ⟨z, e⟩
              have n37 : w (bl N w p) ≠ 37 := fun e => c37 ⟨z, e⟩
              simp [opP, Ne.symm n42, Ne.symm n47, Ne.symm n37]
            · exact op_end z
          rw [lop_n ho] at h1
          unfold t_M_product_24
          exact bq_t rfl (h1 l _ rfl _ (fr.trans (fm_4 _ _).fn) (tM_at t hb.2) (mq_m (by omega) (fm_4 _ _) hq) (fm_8 (fm_4 _ _) h8))
theorem m_product {U : Nat → CL → CR} {x m : Nat} (hN : N ≤ 150) (hm : m ≤ 22) (hU : MC E N w 88 [some (.ref 46), none, none] x U (m + 1)) (hg : gd N U (m + 1)) : MC E N w 87 [some (.ref 46), none] x (seqR N w opP U) m := by
  intro I T Q p l t hl hd hk h h8 h1 h0
  refine s_M_product_0 ?_
  unfold t_M_product_0
  refine hU _ _ _ p l t hl (by omega) hk h h8 (fun l1 p1 e1 J f tJ q e8 => ?_) (fun k q e1 J f gJ => ?_)
  · obtain ⟨a1, a2, a3, a4, a5⟩ := hg _ _ _ _ t.2.1 hl (by omega) e1
    have eS : seqR N w opP U p l = lopR N w opP U 151 p1 l1 := bndR_r e1
    rw [eS] at h1 h0
    exact lm_product (I := I) hN hm hU hg 151 0 p1 l1 J (by omega) (by omega) tJ a1 (by omega) (by omega) (by omega) q e8 f h1 h0
  · show t_M_product_2 E J T Q
    unfold t_M_product_2
    exact bq_f (fM_ne gJ) (h0 k q (bndR_l e1) J f gJ)

theorem lm_sum {U : Nat → CL → CR} {x m : Nat} (hN : N ≤ 150) (hm : m ≤ 22) (hU : MC E N w 87 [some (.ref 46), none] x U (m + 1)) (hg : gd N U (m + 1)) : ∀ (d x3 p : Nat) (l : CL) (J : II), x3 + d = 151 → x3 < p → tM J N w p → okl l → 1 ≤ dp l → dp l ≤ m + 1 → l.length ≤ p → mq J l → J 46 8 = nI x → fn I J → (∀ l' p', lopR N w opS U d p l = .inr (l', p') → ∀ K, fn I K → tM K N w p' → mq K l' → K 46 8 = nI x → Q (.inl none) K T) → (∀ k q, lopR N w opS U d p l = .inl (k, q) → ∀ K, fn I K → fM K N w k q → Q (.inl none) K T) → t_M_sum_2 E J T Q
  | 0, x3, p, l, J, hd, hx, t, _, _, _, _, _, _, _, _, _ => absurd t.2.1 (by omega)
  | d + 1, x3, p, l, J, hd, hx, t, hl, d1, d2, hk, hq, h8, fr, h1, h0 => by
    have hp := t.2.1
    have hb := bl_le (w := w) hp
    unfold t_M_sum_2
    refine bq_t t.2.2.2.1 ?_
    have go : ∀ (c : Nat) (y : Int32), bl N w p < N → opAt N w opS p = some c → y = nI c → t_M_sum_18 E (m_up J 46 4 (nI (bl N w p + 1))) T Q y := fun c y hlt ho hy => by
      rw [lop_s ho] at h1 h0
      have hc := (op_in opS_ok ho).2
      unfold t_M_sum_18
      refine bq_f (by rw [hy]; exact nI_m1 (by omega)) ?_
      have t2 := tM_at t (p' := bl N w p + 1) (by omega)
      have f2 : fm J (m_up J 46 4 (nI (bl N w p + 1))) := fm_4 _ _
      refine hU _ _ _ (bl N w p + 1) l t2 hl (by omega) (by omega) (mq_m (by omega) f2 hq) (fm_8 f2 h8) (fun l1 p1 e1 J1 g1 s1 q1 e81 => ?_) (fun k q e1 J1 g1 s1 => ?_)
      · obtain ⟨a1, a2, a3, a4, a5⟩ := hg _ _ _ _ (by omega) hl (by omega) e1
        rw [bndR_r e1] at h1 h0
        have dd : dp ((c, 0) :: l1) = dp l := by rw [dp, if_neg (by show ¬ c ≤ 1; omega)]; omega
        refine qn_notes (c := (c, 0)) hy rfl s1 q1 (by omega) (fun K fK tK qK e8K => ?_)
        exact s_M_sum_2 (lm_sum hN hm hU hg d (x3 + 1) p1 ((c, 0) :: l1) K (by omega) (by omega) tK ⟨a1, Or.inr ⟨hc.1, hc.2, by omega, by omega⟩⟩ (by omega) (by omega) (by rw [List.length_cons]; omega) qK (by rw [e8K]; exact e81) (((fr.trans f2.fn).trans g1).trans fK) h1 h0)
      · refine qn_notes_f s1 ?_
        refine s_M_sum_2 ?_
        unfold t_M_sum_2
        exact bq_f (fM_ne s1) (h0 k q (bndR_l e1) J1 ((fr.trans f2.fn).trans g1) s1)
    refine qn_takes_t (c := 43) (by omega) t (fun c43 => ?_) (fun c43 => ?_)
    · exact bq_f (by decide) (go 2 2 c43.1 (by rw [op_of c43.1 c43.2]; rfl) rfl)
    · refine bq_t rfl ?_
      refine qn_tk2 (c := 45) (by omega) t (fun c45 => ?_) (fun c45 => ?_)
      · exact bq_f (by decide) (go 3 3 c45.1 (by rw [op_of c45.1 c45.2]; rfl) rfl)
      · refine bq_t rfl ?_
        have ho : opAt N w opS p = none := by
          by_cases z : bl N w p < N
          · rw [op_of z rfl]
            have n43 : w (bl N w p) ≠ 43 := fun e => c43 ⟨z, e⟩
            have n45 : w (bl N w p) ≠ 45 := fun e => c45 ⟨z, e⟩
            simp [opS, Ne.symm n43, Ne.symm n45]
          · exact op_end z
        rw [lop_n ho] at h1
        unfold t_M_sum_18
        exact bq_t rfl (h1 l _ rfl _ (fr.trans (fm_4 _ _).fn) (tM_at t hb.2) (mq_m (by omega) (fm_4 _ _) hq) (fm_8 (fm_4 _ _) h8))
theorem m_sum {U : Nat → CL → CR} {x m : Nat} (hN : N ≤ 150) (hm : m ≤ 22) (hU : MC E N w 87 [some (.ref 46), none] x U (m + 1)) (hg : gd N U (m + 1)) : MC E N w 86 [some (.ref 46), none] x (seqR N w opS U) m := by
  intro I T Q p l t hl hd hk h h8 h1 h0
  refine s_M_sum_0 ?_
  unfold t_M_sum_0
  refine hU _ _ _ p l t hl (by omega) hk h h8 (fun l1 p1 e1 J f tJ q e8 => ?_) (fun k q e1 J f gJ => ?_)
  · obtain ⟨a1, a2, a3, a4, a5⟩ := hg _ _ _ _ t.2.1 hl (by omega) e1
    have eS : seqR N w opS U p l = lopR N w opS U 151 p1 l1 := bndR_r e1
    rw [eS] at h1 h0
    exact lm_sum (I := I) hN hm hU hg 151 0 p1 l1 J (by omega) (by omega) tJ a1 (by omega) (by omega) (by omega) q e8 f h1 h0
  · show t_M_sum_2 E J T Q
    unfold t_M_sum_2
    exact bq_f (fM_ne gJ) (h0 k q (bndR_l e1) J f gJ)

theorem m_sumD {X : Nat × (Nat → Int32)} (hN : N ≤ 150) : ∀ (n x e : Nat), n + 1 + x = 7 → n + 2 ≤ e → MC (e, X) N w 86 [some (.ref 46), none] x (sumD N w (n + 1)) (3 * x)
  | n, x, 0, _, h => absurd h (by omega)
  | n, x, e + 1, hx, he => by
    have gx : decide (0 < n) = decide (x < 6) := by
      by_cases c : 0 < n
      · rw [decide_eq_true c, decide_eq_true (by omega)]
      · rw [decide_eq_false c, decide_eq_false (by omega)]
    have e3 : 3 * x + 1 + 1 + 1 = 3 * (x + 1) := by omega
    have gS : gd N (sumD N w n) (3 * x + 1 + 1 + 1) := by rw [e3]; exact gd_sum n (x + 1) (by omega)
    have gU : gd N (untR N w (sumD N w n) (decide (0 < n))) (3 * x + 1 + 1) := gd_unt (by omega) (fun _ => gS)
    have cU : MC (e + 1, X) N w 88 [some (.ref 46), none, none] x (untR N w (sumD N w n) (decide (0 < n))) (3 * x + 1 + 1) := m_unt gx (by omega) hN (by omega) (by omega) (fun h => by
      have hn : 0 < n := of_decide_eq_true h
      match n, hn with
      | n + 1, _ =>
        rw [e3]
        exact m_sumD hN n (x + 1) e (by omega) (by omega)) (fun _ => gS)
    exact m_sum hN (by omega) (m_product hN (by omega) cU gU) (gd_seq opP_ok (by omega) gU)
end LAWM
