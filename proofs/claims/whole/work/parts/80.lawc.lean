/-! ===== law: the class's reader ===== -/
def fl (I J : II) : Prop := FR [1, 15, 17] I J ∧ ∀ j, j ≠ 5 → J 15 j = I 15 j
theorem fl.refl (I : II) : fl I I := ⟨FR.refl _ _, fun _ _ => rfl⟩
theorem fl.trans {I J K : II} (h : fl I J) (k : fl J K) : fl I K := ⟨h.1.trans k.1, fun j hj => (k.2 j hj).trans (h.2 j hj)⟩
theorem fl_1 {I J : II} (h : FR [1] I J) : fl I J := ⟨h.mono (by decide), fun j _ => by rw [h 15 (by decide)]⟩
def lq (J : II) (l : CL) : Prop := J 15 5 = nI l.length ∧ ∀ k, k < l.length → J 17 k = ccode (cdl l k)
theorem lq_1 {I J : II} {l : CL} (f : FR [1] I J) (h : lq I l) : lq J l := by
  unfold lq at h ⊢
  rw [f 15 (by decide), f 17 (by decide)]
  exact h
def ek (J : II) : Prop := ∃ k, k ≤ 150 ∧ J 15 5 = nI k
theorem ek_1 {I J : II} (f : FR [1] I J) (h : ek I) : ek J := by
  unfold ek at h ⊢
  rw [f 15 (by decide)]
  exact h
theorem lq.ek {J : II} {l : CL} (h : lq J l) (hn : l.length ≤ 150) : ek J := ⟨_, hn, h.1⟩
section LAWC
variable {E : MEnv} {I : II} {T : TT} {Q : QQ} {N : Nat} {w : Nat → Nat}
theorem fC_fr {J K : II} {k q : Nat} (h : fC J N w k q) (e1 : K 1 = J 1) (e2 : K 2 = J 2) : fC K N w k q := by
  unfold fC cB at h ⊢
  rw [e1, e2]
  exact h
theorem q_em {J : II} {l : CL} {c : Nat × Int32} {x : Int32} (hx : x = ccode c) (h : lq J l) (hk : l.length < 150) (hq : ∀ K, FR [15, 17] J K → fl J K → lq K (c :: l) → Q (.inl none) K T) : ev E 6 0 [some (.ref 15), some (.int x)] [] J T Q := by
  subst hx
  refine s_Law_emit_0 ?_
  unfold t_Law_emit_0 t_Law_emit_18
  rw [h.1, nI_clamp (by omega)]
  refine bq_f (nI_ge (a := l.length) (b := 150) (by omega) (by omega)) ⟨⟨nI_pos (by omega), hk⟩, ?_⟩
  have e : (m_up J 17 l.length (ccode c)) 15 5 = nI l.length := h.1
  rw [e, nI_1]
  have fr : FR [15, 17] J (m_up (m_up J 17 l.length (ccode c)) 15 5 (nI (l.length + 1))) := (FR.up (by decide) _ _).trans (FR.up (by decide) _ _)
  refine hq _ fr ⟨fr.mono (by decide), fun j hj => ?_⟩ ⟨rfl, fun k hk => ?_⟩
  · rw [m_up_at, if_neg hj, m_up_ne (by omega)]
  · rw [List.length_cons] at hk
    rw [m_up_ne (by omega), m_up_at, cdl]
    by_cases z : k = l.length
    · rw [if_pos z, if_pos z]
    · rw [if_neg z, if_neg z]; exact h.2 k (by omega)
theorem q_em_f {J : II} {x : Int32} (h : ek J) (hq : ∀ K, FR [15, 17] J K → fl J K → ek K → Q (.inl none) K T) : ev E 6 0 [some (.ref 15), some (.int x)] [] J T Q := by
  obtain ⟨k, hk, h5⟩ := h
  refine s_Law_emit_0 ?_
  unfold t_Law_emit_0 t_Law_emit_18
  rw [h5, nI_clamp (by omega)]
  by_cases c : 150 ≤ k
  · exact bq_t (nI_le (a := 150) (b := k) c (by omega)) (hq J (FR.refl _ _) (fl.refl _) ⟨k, hk, h5⟩)
  · refine bq_f (nI_ge (a := k) (b := 150) (by omega) (by omega)) ⟨⟨nI_pos (by omega), by omega⟩, ?_⟩
    have e : (m_up J 17 k x) 15 5 = nI k := h5
    rw [e, nI_1]
    have fr : FR [15, 17] J (m_up (m_up J 17 k x) 15 5 (nI (k + 1))) := (FR.up (by decide) _ _).trans (FR.up (by decide) _ _)
    refine hq _ fr ⟨fr.mono (by decide), fun j hj => ?_⟩ ⟨k + 1, by omega, rfl⟩
    rw [m_up_at, if_neg hj, m_up_ne (by omega)]
/-- a reader's contract, by the class -/
def CC (E : MEnv) (N : Nat) (w : Nat → Nat) (K : Nat) (x : Nat) (f : Nat → CL → CR) (m : Nat) : Prop := ∀ (I : II) (T : TT) (Q : QQ) (p : Nat) (l : CL), tC I N w p → okl l → dp l ≤ m → l.length ≤ p → lq I l → (∀ l' p', f p l = .inr (l', p') → ∀ J, fl I J → tC J N w p' → lq J l' → Q (.inl none) J T) → (∀ k q, f p l = .inl (k, q) → ∀ J, fl I J → fC J N w k q → ek J → Q (.inl none) J T) → ev E K 0 [some (.ref 15), some (.ref 1), some (.int (nI x)), none, none] [] I T Q
theorem c_brk {e : Nat} {X : Nat × (Nat → Int32)} {S : Nat → CL → CR} {x m p : Nat} {l : CL} {g : Bool} (hx : g = decide (x < 6)) (hx6 : x ≤ 6) (hN : N ≤ 150) (hS : g = true → CC (e, X) N w 80 (x + 1) S (m + 1)) (hg : g = true → gd N S (m + 1)) (t : tC I N w p) (hp : p < N) (hl : okl l) (hd : dp l ≤ m) (hk : l.length ≤ p) (h : lq I l) (h1 : ∀ l' p', g = true → brkR N w S (p + 1) l = .inr (l', p') → ∀ J, fl I J → tC J N w p' → lq J l' → Q (.inl none) J T) (h0 : ∀ k q, ((g = true ∧ brkR N w S (p + 1) l = .inl (k, q)) ∨ (g = false ∧ (k, q) = (3, p))) → ∀ J, fl I J → fC J N w k q → ek J → Q (.inl none) J T) : ev (e + 1, X) 83 0 [some (.ref 15), some (.ref 1), some (.int (nI x))] [] I T Q := by
  refine s_Law_readBrackets_0 ?_
  unfold t_Law_readBrackets_0
  by_cases c : x < 6
  · have gt : g = true := by rw [hx]; exact decide_eq_true c
    refine bq_t (nI_lt (a := x) (b := 6) c (by omega)) ?_
    refine q_skip t.1 t.2.2.1 hp ?_
    have t2 := tC_at t (p' := p + 1) (by omega)
    have f2 : FR [1] I (m_up I 1 3 (nI (p + 1))) := FR.up (by decide) _ _
    rw [nI_1 x]
    refine hS gt _ _ _ (p + 1) l t2 hl (by omega) (by omega) (lq_1 f2 h) (fun l1 p1 e1 J f t1 q1 => ?_) (fun k q e1 J f g1 q1 => ?_)
    · obtain ⟨a1, a2, a3, a4, a5⟩ := hg gt _ _ _ _ (by omega) hl (by omega) e1
      refine q_sign_t (c := 41) (by omega) t1 (fun p2 e2 J2 f3 t3 => ?_) (fun k q e2 J2 f3 g3 => ?_)
      · exact h1 l1 p2 gt (by unfold brkR; rw [bndR_r e1]; exact mapR_r e2) J2 (((fl_1 f2).trans f).trans (fl_1 f3)) t3 (lq_1 f3 q1)
      · exact h0 k q (Or.inl ⟨gt, by unfold brkR; rw [bndR_r e1]; exact mapR_l e2⟩) J2 (((fl_1 f2).trans f).trans (fl_1 f3)) g3 (ek_1 f3 (q1.ek (by omega)))
    · refine q_sign_f _ g1 (fun J2 f3 g3 => ?_)
      exact h0 k q (Or.inl ⟨gt, bndR_l e1⟩) J2 (((fl_1 f2).trans f).trans (fl_1 f3)) g3 (ek_1 f3 q1)
  · have gf : g = false := by rw [hx]; exact decide_eq_false c
    refine bq_f (nI_nlt (a := x) (b := 6) (by omega) (by omega)) ?_
    rw [t.2.2.1]
    refine q_fail_t (k := 3) t (by omega) (fun J f g1 => ?_)
    exact h0 3 p (Or.inr ⟨gf, rfl⟩) J (fl_1 f) g1 (ek_1 f (h.ek (by omega)))
theorem c_chc8_f {e : Nat} {X : Nat × (Nat → Int32)} {J : II} {k q : Nat} {x2 x3 : Int32} (f : fC J N w k q) (hq : ∀ K, FR [1] J K → fC K N w k q → Q (.inl none) K T) : t_Law_readChoice_8 e X J T Q x2 x3 := by
  unfold t_Law_readChoice_8
  refine q_sign_f _ f (fun K fK gK => ?_)
  exact q_isFine_f gK (bq_t rfl (hq K fK gK))
theorem c_chc {e : Nat} {X : Nat × (Nat → Int32)} {S : Nat → CL → CR} {x m p b i : Nat} {y : Int32} {l : CL} {g : Bool} (hx : g = decide (x < 6)) (hx6 : x ≤ 6) (hN : N ≤ 150) (hi : 8 ≤ i ∧ i < 10) (hy : y = ccode (i - 1, 0)) (hm : m ≤ 22) (hS : g = true → CC (e, X) N w 80 (x + 1) S (m + 1)) (hg : g = true → gd N S (m + 1)) (t : tC I N w p) (h4 : I 1 4 = nI b) (hl : okl l) (hd : dp l ≤ m) (hk : l.length + 1 ≤ p) (h : lq I l) (h1 : ∀ l' p', g = true → chcR N w S (i - 1) p l = .inr (l', p') → ∀ J, fl I J → tC J N w p' → lq J l' → Q (.inl none) J T) (h0 : ∀ k q, ((g = true ∧ chcR N w S (i - 1) p l = .inl (k, q)) ∨ (g = false ∧ (k, q) = (3, b))) → ∀ J, fl I J → fC J N w k q → ek J → Q (.inl none) J T) : ev (e + 1, X) 84 0 [some (.ref 15), some (.ref 1), some (.int (nI x)), some (.int y)] [] I T Q := by
  have hp := t.2.1
  refine s_Law_readChoice_0 ?_
  unfold t_Law_readChoice_0
  by_cases c : x < 6
  · have gt : g = true := by rw [hx]; exact decide_eq_true c
    refine bq_t (nI_lt (a := x) (b := 6) c (by omega)) ?_
    unfold t_Law_readChoice_8
    refine q_sign_t (c := 91) (by omega) t (fun p1 e1 J1 f1 t1 => ?_) (fun k q e1 J1 f1 g1 => ?_)
    · refine q_isFine_t t1 (bq_f (by decide) ?_)
      have r1 := sgnR_pos hp e1
      rw [nI_1 x]
      refine hS gt _ _ _ p1 l t1 hl (by omega) (by omega) (lq_1 f1 h) (fun l1 p2 e2 J2 f2 t2 q2 => ?_) (fun k q e2 J2 f2 g2 q2 => ?_)
      · obtain ⟨a1, a2, a3, a4, a5⟩ := hg gt _ _ _ _ r1.2 hl (by omega) e2
        refine q_sign_t (c := 44) (by omega) t2 (fun p3 e3 J3 f3 t3 => ?_) (fun k q e3 J3 f3 g3 => ?_)
        · have r3 := sgnR_pos a5 e3
          refine q_isFine_t t3 (bq_f (by decide) ?_)
          refine hS gt _ _ _ p3 l1 t3 a1 (by omega) (by omega) (lq_1 f3 q2) (fun l2 p4 e4 J4 f4 t4 q4 => ?_) (fun k q e4 J4 f4 g4 q4 => ?_)
          · obtain ⟨b1, b2, b3, b4, b5⟩ := hg gt _ _ _ _ r3.2 a1 (by omega) e4
            have fr : fl I J4 := (((fl_1 f1).trans f2).trans (fl_1 f3)).trans f4
            refine q_sign_t (c := 93) (by omega) t4 (fun p5 e5 J5 f5 t5 => ?_) (fun k q e5 J5 f5 g5 => ?_)
            · refine q_em hy (lq_1 f5 q4) (by omega) (fun K a b q => ?_)
              exact h1 _ p5 gt (by unfold chcR; rw [bndR_r e1, bndR_r e2, bndR_r e3, bndR_r e4]; exact mapR_r e5) K ((fr.trans (fl_1 f5)).trans b) (tC_fr t5 (a 1 (by decide)) (a 2 (by decide))) q
            · refine q_em_f (ek_1 f5 (q4.ek (by omega))) (fun K a b q' => ?_)
              exact h0 k q (Or.inl ⟨gt, by unfold chcR; rw [bndR_r e1, bndR_r e2, bndR_r e3, bndR_r e4]; exact mapR_l e5⟩) K ((fr.trans (fl_1 f5)).trans b) (fC_fr g5 (a 1 (by decide)) (a 2 (by decide))) q'
          · refine q_sign_f _ g4 (fun J5 f5 g5 => ?_)
            refine q_em_f (ek_1 f5 q4) (fun K a b q' => ?_)
            exact h0 k q (Or.inl ⟨gt, by unfold chcR; rw [bndR_r e1, bndR_r e2, bndR_r e3]; exact bndR_l e4⟩) K ((((((fl_1 f1).trans f2).trans (fl_1 f3)).trans f4).trans (fl_1 f5)).trans b) (fC_fr g5 (a 1 (by decide)) (a 2 (by decide))) q'
        · exact q_isFine_f g3 (bq_t rfl (h0 k q (Or.inl ⟨gt, by unfold chcR; rw [bndR_r e1, bndR_r e2]; exact bndR_l e3⟩) J3 (((fl_1 f1).trans f2).trans (fl_1 f3)) g3 (ek_1 f3 (q2.ek (by omega)))))
      · refine q_sign_f _ g2 (fun J3 f3 g3 => ?_)
        exact q_isFine_f g3 (bq_t rfl (h0 k q (Or.inl ⟨gt, by unfold chcR; rw [bndR_r e1]; exact bndR_l e2⟩) J3 (((fl_1 f1).trans f2).trans (fl_1 f3)) g3 (ek_1 f3 q2)))
    · exact q_isFine_f g1 (bq_t rfl (h0 k q (Or.inl ⟨gt, bndR_l e1⟩) J1 (fl_1 f1) g1 (ek_1 f1 (h.ek (by omega)))))
  · have gf : g = false := by rw [hx]; exact decide_eq_false c
    refine bq_f (nI_nlt (a := x) (b := 6) (by omega) (by omega)) ?_
    rw [h4]
    refine q_fail_t (k := 3) t (by omega) (fun J f g1 => ?_)
    exact c_chc8_f g1 (fun K fK gK => h0 3 b (Or.inr ⟨gf, rfl⟩) K (fl_1 (f.trans fK)) gK (ek_1 (f.trans fK) (h.ek (by omega))))
theorem c_unt {e : Nat} {X : Nat × (Nat → Int32)} {S : Nat → CL → CR} {x m : Nat} {g : Bool} (hx : g = decide (x < 6)) (hx6 : x ≤ 6) (hN : N ≤ 150) (hm : m ≤ 22) (hS : g = true → CC (e, X) N w 80 (x + 1) S (m + 1)) (hg : g = true → gd N S (m + 1)) : CC (e + 1, X) N w 82 x (untR N w S g) m := by
  intro I T Q p l t hl hd hk h h1 h0
  have hp := t.2.1
  have hb := bl_le (w := w) hp
  have hw : bl N w p < N → w (bl N w p) < 256 := fun q => (t.1.2.2.2 _ q).1
  refine s_Law_readUnit_0 ?_
  unfold t_Law_readUnit_0
  refine q_peekP t.1 t.2.1 t.2.2.1 ?_
  have tb := tC_at t hb.2
  have fb : FR [1] I (m_up I 1 3 (nI (bl N w p))) := FR.up (by decide) _ _
  refine q_isDigit hw (fun c => ?_) (fun c => ?_)
  · rw [unt_n c] at h1 h0
    refine bq_f (by decide) ?_
    refine q_num_t (lo := 0) (hi := 1000) (by omega) (by omega) tb (fun v p1 e1 J f1 t1 _ => ?_) (fun k q e1 v J f1 g1 => ?_)
    · rw [numR_bl hp] at e1
      have hq := numR_pos hp e1
      refine q_em (c := (0, nI v)) rfl (lq_1 (fb.trans f1) h) (by omega) (fun K a b q => ?_)
      exact h1 _ p1 (mapR_r e1) K ((fl_1 (fb.trans f1)).trans b) (tC_fr t1 (a 1 (by decide)) (a 2 (by decide))) q
    · rw [numR_bl hp] at e1
      refine q_em_f (ek_1 (fb.trans f1) (h.ek (by omega))) (fun K a b q' => ?_)
      exact h0 k q (mapR_l e1) K ((fl_1 (fb.trans f1)).trans b) (fC_fr g1 (a 1 (by decide)) (a 2 (by decide))) q'
  · refine bq_t rfl ?_
    by_cases k40 : bl N w p < N ∧ w (bl N w p) = 40
    · refine bq_t ((cv_eq (c := 40) (by omega) hw).mpr k40) ?_
      refine c_brk hx hx6 hN hS hg tb k40.1 hl hd (by omega) (lq_1 fb h) (fun l' p' gt e J f tJ q => ?_) (fun k q e J f gJ q' => ?_)
      · subst gt
        rw [unt_b c k40] at h1
        exact h1 l' p' e J ((fl_1 fb).trans f) tJ q
      · rcases e with ⟨gt, e⟩ | ⟨gf, e⟩
        · rw [gt] at h0
          rw [unt_b c k40] at h0
          exact h0 k q e J ((fl_1 fb).trans f) gJ q'
        · rw [gf] at h0
          rw [unt_b3 c k40] at h0
          exact h0 k q (by rw [e]) J ((fl_1 fb).trans f) gJ q'
    · refine bq_f (fun z => k40 ((cv_eq (c := 40) (by omega) hw).mp z)) ?_
      refine q_wd4_t tb (fun i ei J f tJ mJ => ?_) (fun en J f gJ => ?_)
      · rw [wd_bl hp] at ei
        rw [bl_bl hp] at tJ mJ
        have i10 := kx4 ei
        have hwp := wd_pos hp i10.2
        have hle := le_le (w := w) hb.2
        have q0 := lq_1 (fb.trans f) h
        by_cases hi : i < 8
        · rw [unt_w c k40 ei hi] at h1
          refine bq_t (nI_lt (a := i) (b := 8) hi (by omega)) (bq_f (nI_pos (by omega)) ?_)
          refine q_em (c := (1, nI i)) rfl q0 (by omega) (fun K a b q => ?_)
          exact h1 _ _ rfl K ((fl_1 (fb.trans f)).trans b) (tC_fr tJ (a 1 (by decide)) (a 2 (by decide))) q
        · refine bq_f (nI_nlt (a := i) (b := 8) (by omega) (by omega)) ?_
          have go : ∀ y, y = ccode (i - 1, 0) → t_Law_readUnit_37 (e + 1, X) J T Q (nI x) y := fun y hy => by
            unfold t_Law_readUnit_37 t_Law_readUnit_46
            refine c_chc hx hx6 hN (by omega) hy hm hS hg tJ mJ hl hd (by omega) q0 (fun l' p' gt e K fK tK q => ?_) (fun k q e K fK gK q' => ?_)
            · subst gt
              rw [unt_c c k40 ei hi] at h1
              exact h1 l' p' e K ((fl_1 (fb.trans f)).trans fK) tK q
            · rcases e with ⟨gt, e⟩ | ⟨gf, e⟩
              · rw [gt] at h0
                rw [unt_c c k40 ei hi] at h0
                exact h0 k q e K ((fl_1 (fb.trans f)).trans fK) gK q'
              · rw [gf] at h0
                rw [unt_c3 c k40 ei hi] at h0
                exact h0 k q (by rw [e]) K ((fl_1 (fb.trans f)).trans fK) gK q'
          by_cases z : i = 8
          · exact bq_t (by rw [z]; rfl) (go _ (by rw [z]; decide))
          · have z9 : i = 9 := by omega
            exact bq_f (fun y => z ((nI_eq (a := i) (b := 8) (by omega) (by omega)).mp y)) (go _ (by rw [z9]; decide))
      · rw [wd_bl hp] at en
        rw [bl_bl hp] at gJ
        rw [unt_w1 c k40 en] at h0
        have fin := h0 1 _ rfl J (fl_1 (fb.trans f)) gJ (ek_1 (fb.trans f) (h.ek (by omega)))
        exact bq_t (by decide) (bq_t (by decide) fin)
theorem op_of {L : List (Nat × Nat)} {p a : Nat} (h : bl N w p < N) (e : w (bl N w p) = a) : opAt N w L p = (L.find? (fun x => x.1 == a)).map Prod.snd := by unfold opAt; rw [if_pos h, e]
theorem op_end {L : List (Nat × Nat)} {p : Nat} (h : ¬ bl N w p < N) : opAt N w L p = none := by unfold opAt; rw [if_neg h]
theorem f_readProduct_6 {J : II} {k q : Nat} {x2 x3 : Int32} (f : fC J N w k q) (hq : Q (.inl none) J T) : t_Law_readProduct_6 E J T Q x2 x3 := by
  unfold t_Law_readProduct_6 t_Law_readProduct_46
  exact ⟨fun _ => hq, fun _ => q_isFine_f f (bq_t rfl hq)⟩
theorem l_readProduct {U : Nat → CL → CR} {x m : Nat} (hN : N ≤ 150) (hm : m ≤ 22) (hU : CC E N w 82 x U (m + 1)) (hg : gd N U (m + 1)) : ∀ (d x3 p : Nat) (l : CL) (J : II), x3 + d = 151 → x3 < p → tC J N w p → okl l → 1 ≤ dp l → dp l ≤ m + 1 → l.length ≤ p → lq J l → fl I J → (∀ l' p', lopR N w opP U d p l = .inr (l', p') → ∀ K, fl I K → tC K N w p' → lq K l' → Q (.inl none) K T) → (∀ k q, lopR N w opP U d p l = .inl (k, q) → ∀ K, fl I K → fC K N w k q → ek K → Q (.inl none) K T) → t_Law_readProduct_6 E J T Q (nI x) (nI x3)
  | 0, x3, p, l, J, hd, hx, t, _, _, _, _, _, _, _, _ => absurd t.2.1 (by omega)
  | d + 1, x3, p, l, J, hd, hx, t, hl, d1, d2, hk, hq, fr, h1, h0 => by
    have hp := t.2.1
    have hb := bl_le (w := w) hp
    have hw : bl N w p < N → w (bl N w p) < 256 := fun q => (t.1.2.2.2 _ q).1
    unfold t_Law_readProduct_6
    refine bq_f (nI_ge (a := x3) (b := 150) (by omega) (by omega)) ?_
    refine q_isFine_t t (bq_f (by decide) ?_)
    refine q_peekP t.1 t.2.1 t.2.2.1 ?_
    have tb := tC_at t hb.2
    have fb : FR [1] J (m_up J 1 3 (nI (bl N w p))) := FR.up (by decide) _ _
    have go : ∀ (a c : Nat) (y : Int32), bl N w p < N → opAt N w opP p = some c → y = ccode (c, 0) → (∀ J2, t_Law_readProduct_43 E J2 T Q (nI x) (nI x3) y → ((nI a = 42 → t_Law_readProduct_43 E J2 T Q (nI x) (nI x3) (-11)) ∧ (¬ (nI a = 42) → ((nI a = 47 → t_Law_readProduct_43 E J2 T Q (nI x) (nI x3) (-12)) ∧ (¬ (nI a = 47) → t_Law_readProduct_43 E J2 T Q (nI x) (nI x3) (-13)))))) → t_Law_readProduct_25 E (m_up J 1 3 (nI (bl N w p))) T Q (nI x) (nI x3) (nI a) := fun a c y hlt ho hy br => by
      rw [lop_s ho] at h1 h0
      unfold t_Law_readProduct_25
      refine q_skip tb.1 tb.2.2.1 hlt ?_
      have t2 := tC_at tb (p' := bl N w p + 1) (by omega)
      have f2 : FR [1] J (m_up (m_up J 1 3 (nI (bl N w p))) 1 3 (nI (bl N w p + 1))) := fb.trans (FR.up (by decide) _ _)
      refine hU _ _ _ (bl N w p + 1) l t2 hl (by omega) (by omega) (lq_1 f2 hq) (fun l1 p1 e1 J1 g1 s1 q1 => br J1 ?_) (fun k q e1 J1 g1 s1 q1 => br J1 ?_)
      · obtain ⟨a1, a2, a3, a4, a5⟩ := hg _ _ _ _ (by omega) hl (by omega) e1
        rw [bndR_r e1] at h1 h0
        have hc := (op_in opP_ok ho).2
        have dd : dp ((c, 0) :: l1) = dp l := by rw [dp, if_neg (by show ¬ c ≤ 1; omega)]; omega
        unfold t_Law_readProduct_43
        refine q_em hy q1 (by omega) (fun K u v q => ?_)
        rw [nI_1 x3]
        exact s_Law_readProduct_6 (l_readProduct hN hm hU hg d (x3 + 1) p1 ((c, 0) :: l1) K (by omega) (by omega) (tC_fr s1 (u 1 (by decide)) (u 2 (by decide))) ⟨a1, Or.inr ⟨hc.1, hc.2, by omega, by omega⟩⟩ (by omega) (by omega) (by rw [List.length_cons]; omega) q (((fr.trans (fl_1 f2)).trans g1).trans v) h1 h0)
      · unfold t_Law_readProduct_43
        refine q_em_f q1 (fun K u v q' => ?_)
        have gK := fC_fr s1 (u 1 (by decide)) (u 2 (by decide))
        exact s_Law_readProduct_6 (f_readProduct_6 gK (h0 k q (bndR_l e1) K (((fr.trans (fl_1 f2)).trans g1).trans v) gK q'))
    by_cases c42 : bl N w p < N ∧ w (bl N w p) = 42
    · have ec : cv N w (bl N w p) = nI 42 := (cv_eq (by omega) hw).mpr c42
      rw [ec]
      exact bq_t rfl (go 42 4 (-11) c42.1 (by rw [op_of c42.1 c42.2]; rfl) (by decide) (fun _ h => bq_t rfl h))
    · refine bq_f (fun z => c42 ((cv_eq (c := 42) (by omega) hw).mp z)) ?_
      by_cases c47 : bl N w p < N ∧ w (bl N w p) = 47
      · have ec : cv N w (bl N w p) = nI 47 := (cv_eq (by omega) hw).mpr c47
        rw [ec]
        exact bq_t rfl (go 47 5 (-12) c47.1 (by rw [op_of c47.1 c47.2]; rfl) (by decide) (fun _ h => bq_f (by decide) (bq_t rfl h)))
      · refine bq_f (fun z => c47 ((cv_eq (c := 47) (by omega) hw).mp z)) ?_
        by_cases c37 : bl N w p < N ∧ w (bl N w p) = 37
        · have ec : cv N w (bl N w p) = nI 37 := (cv_eq (by omega) hw).mpr c37
          rw [ec]
          exact bq_t rfl (go 37 6 (-13) c37.1 (by rw [op_of c37.1 c37.2]; rfl) (by decide) (fun _ h => bq_f (by decide) (bq_f (by decide) (h))))
        · refine bq_f (fun z => c37 ((cv_eq (c := 37) (by omega) hw).mp z)) ?_
          have ho : opAt N w opP p = none := by
            by_cases z : bl N w p < N
            · rw [op_of z rfl]
              have n42 : w (bl N w p) ≠ 42 := fun e => c42 ⟨z, e⟩
              have n47 : w (bl N w p) ≠ 47 := fun e => c47 ⟨z, e⟩
              have n37 : w (bl N w p) ≠ 37 := fun e => c37 ⟨z, e⟩
              simp [opP, Ne.symm n42, Ne.symm n47, Ne.symm n37]
            · exact op_end z
          rw [lop_n ho] at h1
          exact h1 l _ rfl _ (fr.trans (fl_1 fb)) tb (lq_1 fb hq)
theorem c_readProduct {U : Nat → CL → CR} {x m : Nat} (hN : N ≤ 150) (hm : m ≤ 22) (hU : CC E N w 82 x U (m + 1)) (hg : gd N U (m + 1)) : CC E N w 81 x (seqR N w opP U) m := by
  intro I T Q p l t hl hd hk h h1 h0
  refine s_Law_readProduct_0 ?_
  unfold t_Law_readProduct_0
  refine hU _ _ _ p l t hl (by omega) hk h (fun l1 p1 e1 J f tJ q => ?_) (fun k q e1 J f gJ q' => ?_)
  · obtain ⟨a1, a2, a3, a4, a5⟩ := hg _ _ _ _ t.2.1 hl (by omega) e1
    have eS : seqR N w opP U p l = lopR N w opP U 151 p1 l1 := bndR_r e1
    rw [eS] at h1 h0
    exact l_readProduct (I := I) hN hm hU hg 151 0 p1 l1 J (by omega) (by omega) tJ a1 (by omega) (by omega) (by omega) q f h1 h0
  · exact f_readProduct_6 (x3 := 0) gJ (h0 k q (bndR_l e1) J f gJ q')
theorem f_readSum_6 {J : II} {k q : Nat} {x2 x3 : Int32} (f : fC J N w k q) (hq : Q (.inl none) J T) : t_Law_readSum_6 E J T Q x2 x3 := by
  unfold t_Law_readSum_6 t_Law_readSum_38
  exact ⟨fun _ => hq, fun _ => q_isFine_f f (bq_t rfl hq)⟩
theorem l_readSum {U : Nat → CL → CR} {x m : Nat} (hN : N ≤ 150) (hm : m ≤ 22) (hU : CC E N w 81 x U (m + 1)) (hg : gd N U (m + 1)) : ∀ (d x3 p : Nat) (l : CL) (J : II), x3 + d = 151 → x3 < p → tC J N w p → okl l → 1 ≤ dp l → dp l ≤ m + 1 → l.length ≤ p → lq J l → fl I J → (∀ l' p', lopR N w opS U d p l = .inr (l', p') → ∀ K, fl I K → tC K N w p' → lq K l' → Q (.inl none) K T) → (∀ k q, lopR N w opS U d p l = .inl (k, q) → ∀ K, fl I K → fC K N w k q → ek K → Q (.inl none) K T) → t_Law_readSum_6 E J T Q (nI x) (nI x3)
  | 0, x3, p, l, J, hd, hx, t, _, _, _, _, _, _, _, _ => absurd t.2.1 (by omega)
  | d + 1, x3, p, l, J, hd, hx, t, hl, d1, d2, hk, hq, fr, h1, h0 => by
    have hp := t.2.1
    have hb := bl_le (w := w) hp
    have hw : bl N w p < N → w (bl N w p) < 256 := fun q => (t.1.2.2.2 _ q).1
    unfold t_Law_readSum_6
    refine bq_f (nI_ge (a := x3) (b := 150) (by omega) (by omega)) ?_
    refine q_isFine_t t (bq_f (by decide) ?_)
    refine q_peekP t.1 t.2.1 t.2.2.1 ?_
    have tb := tC_at t hb.2
    have fb : FR [1] J (m_up J 1 3 (nI (bl N w p))) := FR.up (by decide) _ _
    have go : ∀ (a c : Nat) (y : Int32), bl N w p < N → opAt N w opS p = some c → y = ccode (c, 0) → (∀ J2, t_Law_readSum_35 E J2 T Q (nI x) (nI x3) y → ((nI a = 43 → t_Law_readSum_35 E J2 T Q (nI x) (nI x3) (-9)) ∧ (¬ (nI a = 43) → t_Law_readSum_35 E J2 T Q (nI x) (nI x3) (-10)))) → t_Law_readSum_22 E (m_up J 1 3 (nI (bl N w p))) T Q (nI x) (nI x3) (nI a) := fun a c y hlt ho hy br => by
      rw [lop_s ho] at h1 h0
      unfold t_Law_readSum_22
      refine q_skip tb.1 tb.2.2.1 hlt ?_
      have t2 := tC_at tb (p' := bl N w p + 1) (by omega)
      have f2 : FR [1] J (m_up (m_up J 1 3 (nI (bl N w p))) 1 3 (nI (bl N w p + 1))) := fb.trans (FR.up (by decide) _ _)
      refine hU _ _ _ (bl N w p + 1) l t2 hl (by omega) (by omega) (lq_1 f2 hq) (fun l1 p1 e1 J1 g1 s1 q1 => br J1 ?_) (fun k q e1 J1 g1 s1 q1 => br J1 ?_)
      · obtain ⟨a1, a2, a3, a4, a5⟩ := hg _ _ _ _ (by omega) hl (by omega) e1
        rw [bndR_r e1] at h1 h0
        have hc := (op_in opS_ok ho).2
        have dd : dp ((c, 0) :: l1) = dp l := by rw [dp, if_neg (by show ¬ c ≤ 1; omega)]; omega
        unfold t_Law_readSum_35
        refine q_em hy q1 (by omega) (fun K u v q => ?_)
        rw [nI_1 x3]
        exact s_Law_readSum_6 (l_readSum hN hm hU hg d (x3 + 1) p1 ((c, 0) :: l1) K (by omega) (by omega) (tC_fr s1 (u 1 (by decide)) (u 2 (by decide))) ⟨a1, Or.inr ⟨hc.1, hc.2, by omega, by omega⟩⟩ (by omega) (by omega) (by rw [List.length_cons]; omega) q (((fr.trans (fl_1 f2)).trans g1).trans v) h1 h0)
      · unfold t_Law_readSum_35
        refine q_em_f q1 (fun K u v q' => ?_)
        have gK := fC_fr s1 (u 1 (by decide)) (u 2 (by decide))
        exact s_Law_readSum_6 (f_readSum_6 gK (h0 k q (bndR_l e1) K (((fr.trans (fl_1 f2)).trans g1).trans v) gK q'))
    by_cases c43 : bl N w p < N ∧ w (bl N w p) = 43
    · have ec : cv N w (bl N w p) = nI 43 := (cv_eq (by omega) hw).mpr c43
      rw [ec]
      exact bq_t rfl (go 43 2 (-9) c43.1 (by rw [op_of c43.1 c43.2]; rfl) (by decide) (fun _ h => bq_t rfl h))
    · refine bq_f (fun z => c43 ((cv_eq (c := 43) (by omega) hw).mp z)) ?_
      by_cases c45 : bl N w p < N ∧ w (bl N w p) = 45
      · have ec : cv N w (bl N w p) = nI 45 := (cv_eq (by omega) hw).mpr c45
        rw [ec]
        exact bq_t rfl (go 45 3 (-10) c45.1 (by rw [op_of c45.1 c45.2]; rfl) (by decide) (fun _ h => bq_f (by decide) (h)))
      · refine bq_f (fun z => c45 ((cv_eq (c := 45) (by omega) hw).mp z)) ?_
        have ho : opAt N w opS p = none := by
          by_cases z : bl N w p < N
          · rw [op_of z rfl]
            have n43 : w (bl N w p) ≠ 43 := fun e => c43 ⟨z, e⟩
            have n45 : w (bl N w p) ≠ 45 := fun e => c45 ⟨z, e⟩
            simp [opS, Ne.symm n43, Ne.symm n45]
          · exact op_end z
        rw [lop_n ho] at h1
        exact h1 l _ rfl _ (fr.trans (fl_1 fb)) tb (lq_1 fb hq)
theorem c_readSum {U : Nat → CL → CR} {x m : Nat} (hN : N ≤ 150) (hm : m ≤ 22) (hU : CC E N w 81 x U (m + 1)) (hg : gd N U (m + 1)) : CC E N w 80 x (seqR N w opS U) m := by
  intro I T Q p l t hl hd hk h h1 h0
  refine s_Law_readSum_0 ?_
  unfold t_Law_readSum_0
  refine hU _ _ _ p l t hl (by omega) hk h (fun l1 p1 e1 J f tJ q => ?_) (fun k q e1 J f gJ q' => ?_)
  · obtain ⟨a1, a2, a3, a4, a5⟩ := hg _ _ _ _ t.2.1 hl (by omega) e1
    have eS : seqR N w opS U p l = lopR N w opS U 151 p1 l1 := bndR_r e1
    rw [eS] at h1 h0
    exact l_readSum (I := I) hN hm hU hg 151 0 p1 l1 J (by omega) (by omega) tJ a1 (by omega) (by omega) (by omega) q f h1 h0
  · exact f_readSum_6 (x3 := 0) gJ (h0 k q (bndR_l e1) J f gJ q')
theorem c_sumD {X : Nat × (Nat → Int32)} (hN : N ≤ 150) : ∀ (n x e : Nat), n + 1 + x = 7 → n + 1 ≤ e → CC (e, X) N w 80 x (sumD N w (n + 1)) (3 * x)
  | n, x, 0, _, h => absurd h (by omega)
  | n, x, e + 1, hx, he => by
    have gx : decide (0 < n) = decide (x < 6) := by
      by_cases c : 0 < n
      · rw [decide_eq_true c, decide_eq_true (by omega)]
      · rw [decide_eq_false c, decide_eq_false (by omega)]
    have e3 : 3 * x + 1 + 1 + 1 = 3 * (x + 1) := by omega
    have gS : gd N (sumD N w n) (3 * x + 1 + 1 + 1) := by rw [e3]; exact gd_sum n (x + 1) (by omega)
    have gU : gd N (untR N w (sumD N w n) (decide (0 < n))) (3 * x + 1 + 1) := gd_unt (by omega) (fun _ => gS)
    have cU : CC (e + 1, X) N w 82 x (untR N w (sumD N w n) (decide (0 < n))) (3 * x + 1 + 1) := c_unt gx (by omega) hN (by omega) (fun h => by
      have hn : 0 < n := of_decide_eq_true h
      match n, hn with
      | n + 1, _ =>
        rw [e3]
        exact c_sumD hN n (x + 1) e (by omega) (by omega)) (fun _ => gS)
    exact c_readSum hN (by omega) (c_readProduct hN (by omega) cU gU) (gd_seq opP_ok (by omega) gU)
theorem lwR_f {e : Nat × Nat} (h : sumD N w 7 0 [] = .inl e) : lwR N w = .inl e := by unfold lwR; rw [h]
theorem lwR_1 {l : CL} {p : Nat} (h : sumD N w 7 0 [] = .inr (l, p)) (k : bl N w p ≠ N) : lwR N w = .inl (1, bl N w p) := by unfold lwR; rw [h]; exact if_neg k
theorem lwR_ok {l : CL} {p : Nat} (h : sumD N w 7 0 [] = .inr (l, p)) (k : bl N w p = N) : lwR N w = .inr l := by unfold lwR; rw [h]; exact if_pos k
theorem q_lawRead {X : Nat × (Nat → Int32)} (hN : N ≤ 150) (t : tC I N w 0) (h1 : ∀ l, lwR N w = .inr l → okl l → 1 ≤ dp l → l.length ≤ 150 → ∀ K, FR [1, 15, 16, 17] I K → K 1 1 = 0 → K 1 6 = -1 → K 1 5 = 0 → lawC K l.length (cdl l) → Q (.inl none) K T) (h0 : ∀ k q, lwR N w = .inl (k, q) → ∀ K, fl I K → fC K N w k q → Q (.inl none) K T) : ev (16, X) 79 0 [some (.ref 15), some (.ref 1)] [] I T Q := by
  refine s_Law_read_0 ?_
  unfold t_Law_read_0
  have f0 : fl I (m_up I 15 5 0) := ⟨FR.up (by decide) _ _, fun j hj => by rw [m_up_at, if_neg hj]⟩
  have e16 : ∀ {J : II} {k q : Nat}, fC J N w k q → Q (.inl none) J T → t_Law_read_16 (16, X) J T Q := fun f hq => by
    unfold t_Law_read_16 t_Law_read_21
    exact q_isFine_f f (bq_t rfl hq)
  refine c_sumD hN 6 0 16 (by omega) (by omega) _ _ _ 0 [] (tC_fr t rfl rfl) trivial (by show 0 ≤ _; omega) (by show 0 ≤ _; omega) ⟨rfl, fun k hk => absurd hk (Nat.not_lt_zero _)⟩ (fun l p e1 J f tJ q => ?_) (fun k q e1 J f gJ q' => ?_)
  · obtain ⟨a1, a2, a3, a4, a5⟩ := gd_sum 7 0 rfl 0 [] l p (by omega) trivial (by show 0 ≤ _; omega) e1
    have hb := bl_le (w := w) tJ.2.1
    refine q_peekP tJ.1 tJ.2.1 tJ.2.2.1 ?_
    have tb := tC_at tJ hb.2
    have fb : FR [1] J (m_up J 1 3 (nI (bl N w p))) := FR.up (by decide) _ _
    by_cases z : bl N w p = N
    · refine bq_t ((cv_m1 hb.2 (fun z => (tJ.1.2.2.2 _ z).1)).mpr z) ?_
      unfold t_Law_read_16 t_Law_read_21
      refine q_isFine_t tb (bq_f (by decide) ?_)
      refine s_Law_accept_0 ?_
      unfold t_Law_accept_0
      have q2 := lq_1 fb q
      have hlen : l.length ≤ 150 := by
        have : ([] : CL).length = 0 := rfl
        omega
      have e : (m_row (m_up J 1 3 (nI (bl N w p))) 16 (va_cpy ((m_up J 1 3 (nI (bl N w p))) 17) ((m_up J 1 3 (nI (bl N w p))) 16) 0 0 150)) 15 5 = nI l.length := q2.1
      rw [e]
      refine h1 l (lwR_ok e1 z) a1 (by omega) hlen _ ?_ tJ.1.2.1 tJ.2.2.2.2 tJ.2.2.2.1 ⟨rfl, fun k hk => ?_⟩
      · exact ((((f0.trans f).trans (fl_1 fb)).1.mono (by decide)).trans (FR.row (by decide) _)).trans (FR.up (by decide) _ _)
      · rw [m_up_ne (by omega), m_row_at, cpy_in (by omega)]
        exact q2.2 k hk
    · refine bq_f (fun y => z ((cv_m1 hb.2 (fun z => (tJ.1.2.2.2 _ z).1)).mp y)) ?_
      show ev (16, X) 45 0 [some (.ref 1), some (.int 1), some (.int (nI (bl N w p)))] [] _ T _
      refine q_fail_t (k := 1) tb (by omega) (fun K fK gK => ?_)
      exact e16 gK (h0 1 _ (lwR_1 e1 z) K ((f0.trans f).trans (fl_1 (fb.trans fK))) gK)
  · obtain ⟨p, hp, h3⟩ := gJ.2.1
    refine q_peekP gJ.1 hp h3 ?_
    have hb := bl_le (w := w) hp
    have g2 := fC_at gJ hb.2
    have fb : FR [1] J (m_up J 1 3 (nI (bl N w p))) := FR.up (by decide) _ _
    have fin := h0 k q (lwR_f e1) _ ((f0.trans f).trans (fl_1 fb)) g2
    exact ⟨fun _ => e16 g2 fin, fun _ => q_fail_f g2 _ _ (e16 g2 fin)⟩
end LAWC
