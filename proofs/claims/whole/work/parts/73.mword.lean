/-! ===== texts: words, by both ===== -/
section MWORD
variable {E : MEnv} {I : II} {T : TT} {Q : QQ} {N : Nat} {w : Nat → Nat}
theorem le_step {p n : Nat} (hp : p ≤ N) (hn : p + n ≤ le N w p) : isL N w (p + n) ↔ p + n < le N w p := by
  have hl := le_le (w := w) hp
  constructor
  · intro h
    by_cases c : p + n < le N w p
    · exact c
    · have e : p + n = le N w p := by omega
      rw [e] at h
      exact absurd h (le_no (N - p) p (by omega))
  · intro h
    exact ⟨by omega, le_in (N := N) (N - p) p (by omega) (p + n) (by omega) h⟩
theorem l_wordHere (hB : mB I N w) {p : Nat} (hp : p ≤ N) (h4 : I 46 4 = nI p) (hq : Q (.inl (some (.int (if le N w p - p ≤ 6 then nI (er (rl w p (le N w p - p))) else -1)))) I T) : ∀ (d n : Nat), p + n + d = le N w p → t_M_wordHere_6 E I T Q (nI (er (rl w p (min n 6)))) (nI n)
  | 0, n, hn => by
    have n6 := hB.1
    have hl := le_le (w := w) hp
    have en : le N w p - p = n := by omega
    rw [en] at hq
    unfold t_M_wordHere_6 t_M_wordHere_42
    rw [h4, nI_add]
    refine qn_byteAt hB (by omega) ?_
    refine qn_isSmall (fun z => (hB.2.2.2 _ z).1) (fun z => ?_) (fun z => ?_)
    · have := (le_step (w := w) hp (n := n) (by omega)).mp z; omega
    · refine bq_t rfl ?_
      by_cases c : n ≤ 6
      · rw [if_pos c] at hq
        rw [Nat.min_eq_left c]
        exact bq_t (nI_le (a := n) (b := 6) c (by omega)) hq
      · rw [if_neg c] at hq
        exact bq_f (nI_ge (a := 6) (b := n) (by omega) (by omega)) hq
  | d + 1, n, hn => by
    have n6 := hB.1
    have hl := le_le (w := w) hp
    have hL := (le_step (w := w) hp (n := n) (by omega)).mpr (by omega)
    unfold t_M_wordHere_6 t_M_wordHere_33
    rw [h4, nI_add]
    refine qn_byteAt hB (by omega) ?_
    refine qn_isSmall (fun z => (hB.2.2.2 _ z).1) (fun _ => ?_) (fun z => absurd hL z)
    refine bq_f (by decide) ?_
    rw [nI_1 n]
    have ih := l_wordHere hB hp h4 hq d (n + 1) (by omega)
    by_cases c : 6 ≤ n
    · refine bq_t (nI_le (a := 6) (b := n) c (by omega)) ?_
      rw [Nat.min_eq_right (by omega)] at ih
      rw [Nat.min_eq_right c]
      exact s_M_wordHere_6 ih
    · refine bq_f (nI_ge (a := n) (b := 6) (by omega) (by omega)) ?_
      show ev E 61 0 [some (.ref 46), some (.int (I 46 4 + nI n))] [] _ T _
      rw [h4, nI_add]
      refine qn_byteAt hB (by omega) ?_
      have ec : cv N w (p + n) = nI (w (p + n)) := if_pos hL.1
      rw [ec, Nat.min_eq_left (by omega)]
      rw [Nat.min_eq_left (by omega), rl, er] at ih
      have eb := er_rl (w := w) (p := p) (n := n) (by omega) (fun i hi => le_in (N := N) (N - p) p (by omega) (p + i) (by omega) (by omega))
      have h97 := hL.2
      have e1 : (27 * nI (er (rl w p n)) + nI (w (p + n)) - 97 + 1 : Int32) = nI (27 * er (rl w p n) + (w (p + n) - 96)) := by
        have a1 : (27 * nI (er (rl w p n)) : Int32) = nI (27 * er (rl w p n)) := pk_mul 27 _
        have a2 : (nI (27 * er (rl w p n) + w (p + n)) - 97 : Int32) = nI (27 * er (rl w p n) + w (p + n) - 97) := pk_sub (b := 97) (by omega)
        rw [a1, nI_add, a2, nI_1]
        congr 1
        omega
      show ev E 68 6 [some (.ref 46), some (.int (27 * nI (er (rl w p n)) + nI (w (p + n)) - 97 + 1)), some (.int (nI (n + 1)))] [] _ T Q
      rw [e1]
      exact s_M_wordHere_6 ih
theorem qn_wordHere {p : Nat} (hB : mB I N w) (hp : p ≤ N) (h4 : I 46 4 = nI p) (hq : Q (.inl (some (.int (if (wd N w p).length ≤ 6 then nI (er (wd N w p)) else -1)))) (m_up I 46 4 (nI (bl N w p))) T) : ev E 68 0 [some (.ref 46), none, none] [] I T Q := by
  have hb := bl_le (w := w) hp
  refine s_M_wordHere_0 ?_
  unfold t_M_wordHere_0
  refine qn_blanks hB hp h4 ?_
  have hl := le_le (w := w) hb.2
  unfold wd at hq
  rw [rl_len] at hq
  exact l_wordHere (mB_4 hB _) hb.2 rfl hq (le N w (bl N w p) - bl N w p) 0 (by omega)
theorem wd_lett {p : Nat} (hp : p ≤ N) : lett (wd N w p) := by
  have hb := bl_le (w := w) hp
  have hl := le_le (w := w) hb.2
  exact rl_lett _ (fun i hi => le_in (N := N) (N - bl N w p) (bl N w p) (by omega) _ (by omega) (by omega))
/-- six letters, by 27s -/
def sixS (v x : Nat) : Nat := if x = 0 then v else 27 * v + x
def sixV (a b c d e f : Nat) : Nat := sixS (sixS (sixS (27 * (27 * a + b) + c) d) e) f
theorem qn_six {a b c d e f : Nat} (h : a ≤ 26 ∧ b ≤ 26 ∧ c ≤ 26 ∧ d ≤ 26 ∧ e ≤ 26 ∧ f ≤ 26) (hq : Q (.inl (some (.int (nI (sixV a b c d e f))))) I T) : ev E 64 0 [some (.int (nI a)), some (.int (nI b)), some (.int (nI c)), some (.int (nI d)), some (.int (nI e)), some (.int (nI f)), none] [] I T Q := by
  refine s_M_six_0 ?_
  unfold t_M_six_0 t_M_six_19 t_M_six_29 t_M_six_39
  have m27 : ∀ x : Nat, (27 * nI x : Int32) = nI (27 * x) := fun x => pk_mul 27 x
  have st : ∀ v x : Nat, (27 * nI v + nI x : Int32) = nI (27 * v + x) := fun v x => by rw [m27, nI_add]
  have z : ∀ x : Nat, x ≤ 26 → (nI x = 0 ↔ x = 0) := fun x hx => nI_eq (a := x) (b := 0) (by omega) (by omega)
  have last : ∀ v, Q (.inl (some (.int (nI (sixS v f))))) I T → (nI f = 0 → Q (.inl (some (.int (nI v)))) I T) ∧ (¬ nI f = 0 → Q (.inl (some (.int (27 * nI v + nI f)))) I T) := fun v hv => by
    rw [st]
    refine ⟨fun y => ?_, fun y => ?_⟩
    · rw [sixS, if_pos ((z f h.2.2.2.2.2).mp y)] at hv; exact hv
    · rw [sixS, if_neg (fun q => y ((z f h.2.2.2.2.2).mpr q))] at hv; exact hv
  have mid : ∀ v, Q (.inl (some (.int (nI (sixS (sixS v e) f))))) I T → (nI e = 0 → (nI f = 0 → Q (.inl (some (.int (nI v)))) I T) ∧ (¬ nI f = 0 → Q (.inl (some (.int (27 * nI v + nI f)))) I T)) ∧ (¬ nI e = 0 → (nI f = 0 → Q (.inl (some (.int (27 * nI v + nI e)))) I T) ∧ (¬ nI f = 0 → Q (.inl (some (.int (27 * (27 * nI v + nI e) + nI f)))) I T)) := fun v hv => by
    refine ⟨fun y => ?_, fun y => ?_⟩
    · have e1 : sixS v e = v := if_pos ((z e h.2.2.2.2.1).mp y)
      rw [e1] at hv; exact last v hv
    · have hv2 : Q (.inl (some (.int (nI (sixS (27 * v + e) f))))) I T := by
        have e1 : sixS v e = 27 * v + e := if_neg (fun q => y ((z e h.2.2.2.2.1).mpr q))
        rw [e1] at hv; exact hv
      have := last _ hv2
      rw [← st] at this
      exact this
  have e0 : (27 * (27 * nI a + nI b) + nI c : Int32) = nI (27 * (27 * a + b) + c) := by rw [st, st]
  show (nI d = 0 → _) ∧ (¬ nI d = 0 → _)
  unfold sixV at hq
  refine ⟨fun y => ?_, fun y => ?_⟩
  · have e1 : sixS (27 * (27 * a + b) + c) d = 27 * (27 * a + b) + c := if_pos ((z d h.2.2.2.1).mp y)
    rw [e1] at hq
    have := mid _ hq
    rw [← e0] at this
    exact this
  · have e1 : sixS (27 * (27 * a + b) + c) d = 27 * (27 * (27 * a + b) + c) + d := if_neg (fun q => y ((z d h.2.2.2.1).mpr q))
    rw [e1] at hq
    have := mid _ hq
    rw [← st, ← e0] at this
    exact this
theorem qn_isWord {a b c d e f p : Nat} (hs : a ≤ 26 ∧ b ≤ 26 ∧ c ≤ 26 ∧ d ≤ 26 ∧ e ≤ 26 ∧ f ≤ 26) {t : List Nat} (ht : sixV a b c d e f = er t) (hl : t.length ≤ 6) (htl : ∀ x, x ∈ t → 97 ≤ x ∧ x ≤ 122) (h : tM I N w p) (h1 : wd N w p = t → Q (.inl (some (.int 1))) (m_up I 46 4 (nI (bl N w p))) T) (h0 : wd N w p ≠ t → Q (.inl (some (.int 0))) (m_up I 46 4 (nI (bl N w p))) T) : ev E 67 0 [some (.ref 46), some (.int (nI a)), some (.int (nI b)), some (.int (nI c)), some (.int (nI d)), some (.int (nI e)), some (.int (nI f))] [] I T Q := by
  obtain ⟨hB, hp, h4, h5, h6⟩ := h
  refine s_M_isWord_0 ?_
  unfold t_M_isWord_0 t_M_isWord_15 t_M_isWord_16
  refine bq_t h5 ?_
  refine qn_wordHere hB hp h4 ?_
  refine qn_six hs ?_
  rw [ht]
  have hb2 : ∀ l : List Nat, lett l → l.length ≤ 6 → er l < 387420489 := fun l h1 h2 => Nat.lt_of_lt_of_le (er_lt l h1) (Nat.pow_le_pow_right (n := 27) (by omega) h2)
  have et := hb2 t htl hl
  by_cases c6 : (wd N w p).length ≤ 6
  · rw [if_pos c6]
    have ew := hb2 _ (wd_lett hp) c6
    refine ⟨fun y => ⟨Or.inr rfl, h1 ?_⟩, fun y => ⟨Or.inl rfl, h0 (fun z => y (by rw [z]))⟩⟩
    exact er_inj _ _ (wd_lett hp) htl ((nI_eq (by omega) (by omega)).mp y)
  · rw [if_neg c6]
    exact bq_f (fun y => nI_m1 (by omega) y.symm) ⟨Or.inl rfl, h0 (fun z => c6 (by rw [z]; exact hl))⟩
theorem qn_skipWord (hB : mB I N w) : ∀ (d p : Nat), p + d = N → Q (.inl none) (m_up I 46 4 (nI (le N w p))) T → ev E 70 0 [some (.ref 46)] [] (m_up I 46 4 (nI p)) T Q
  | 0, p, hp, hq => by
    have n6 := hB.1
    have e : p = N := by omega
    subst e
    refine s_M_skipWord_0 ?_
    unfold t_M_skipWord_0
    show ev E 61 0 [some (.ref 46), some (.int (nI p))] [] _ T _
    refine qn_byteAt (mB_4 hB _) (by omega) ?_
    rw [le_end] at hq
    refine qn_isSmall (fun z => (hB.2.2.2 _ z).1) (fun z => absurd z.1 (by omega)) (fun _ => ?_)
    exact bq_t rfl hq
  | d + 1, p, hp, hq => by
    have n6 := hB.1
    refine s_M_skipWord_0 ?_
    unfold t_M_skipWord_0
    show ev E 61 0 [some (.ref 46), some (.int (nI p))] [] _ T _
    refine qn_byteAt (mB_4 hB _) (by omega) ?_
    rw [le_S (by omega)] at hq
    refine qn_isSmall (fun z => (hB.2.2.2 _ z).1) (fun z => ?_) (fun z => ?_)
    · rw [if_pos z.2] at hq
      refine bq_f (by decide) ?_
      show ev E 70 0 [some (.ref 46)] [] (m_up (m_up I 46 4 (nI p)) 46 4 (nI p + 1)) T Q
      rw [up_up, nI_1]
      exact qn_skipWord hB d (p + 1) (by omega) hq
    · rw [if_neg (fun y => z ⟨by omega, y⟩)] at hq
      exact bq_t rfl hq
theorem qn_takes {a b c d e f p : Nat} (hs : a ≤ 26 ∧ b ≤ 26 ∧ c ≤ 26 ∧ d ≤ 26 ∧ e ≤ 26 ∧ f ≤ 26) {t : List Nat} (ht : sixV a b c d e f = er t) (hl : t.length ≤ 6) (htl : ∀ x, x ∈ t → 97 ≤ x ∧ x ≤ 122) (h : tM I N w p) (h1 : wd N w p = t → Q (.inl (some (.int 1))) (m_up I 46 4 (nI (le N w (bl N w p)))) T) (h0 : wd N w p ≠ t → Q (.inl (some (.int 0))) (m_up I 46 4 (nI (bl N w p))) T) : ev E 92 0 [some (.ref 46), some (.int (nI a)), some (.int (nI b)), some (.int (nI c)), some (.int (nI d)), some (.int (nI e)), some (.int (nI f)), none] [] I T Q := by
  have hb := bl_le (w := w) h.2.1
  refine s_M_takes_0 ?_
  unfold t_M_takes_0 t_M_takes_13
  refine qn_isWord hs ht hl htl h (fun y => ?_) (fun y => ?_)
  · refine bq_f (by decide) ?_
    exact qn_skipWord h.1 (N - bl N w p) (bl N w p) (by omega) ⟨Or.inr rfl, h1 y⟩
  · exact bq_t rfl ⟨Or.inl rfl, h0 y⟩
theorem l_seven (hB : mB I N w) {p : Nat} (hp : p ≤ N) (h4 : I 46 4 = nI p) (h5 : I 46 5 = 0) {t : List Nat} {g v : Nat} (hv : v = er t) (ht6 : t.length = 6) (htl : ∀ x, x ∈ t → 97 ≤ x ∧ x ≤ 122) (hg : 1 ≤ g ∧ g ≤ 26) (h1 : rl w p (le N w p - p) = (96 + g) :: t → Q (.inl (some (.int 1))) I T) (h0 : rl w p (le N w p - p) ≠ (96 + g) :: t → Q (.inl (some (.int 0))) I T) : ∀ (d n : Nat), p + n + d = le N w p → t_M_isSeven_6 E I T Q (nI v) (nI g) (nI (er (rl w p (min n 6)))) (nI n)
  | 0, n, hn => by
    have n6 := hB.1
    have hl := le_le (w := w) hp
    have en : le N w p - p = n := by omega
    rw [en] at h1 h0
    have hlet : ∀ i, i < n → 97 ≤ w (p + i) ∧ w (p + i) ≤ 122 := fun i hi => le_in (N := N) (N - p) p (by omega) (p + i) (by omega) (by omega)
    unfold t_M_isSeven_6 t_M_isSeven_59 t_M_isSeven_60
    rw [h4, nI_add]
    refine qn_byteAt hB (by omega) ?_
    refine qn_isSmall (fun z => (hB.2.2.2 _ z).1) (fun z => ?_) (fun z => ?_)
    · have := (le_step (w := w) hp (n := n) (by omega)).mp z; omega
    · refine bq_t rfl (bq_t h5 ?_)
      have hb2 : ∀ l : List Nat, lett l → l.length ≤ 6 → er l < 387420489 := fun l h1 h2 => Nat.lt_of_lt_of_le (er_lt l h1) (Nat.pow_le_pow_right (n := 27) (by omega) h2)
      by_cases c : n = 7
      · subst c
        refine bq_t rfl ?_
        have l6 : lett (rl w p 6) := rl_lett 6 (fun i hi => hlet i (by omega))
        have e6 := hb2 _ l6 (by rw [rl_len]; omega)
        have e7 := hb2 t htl (by omega)
        refine ⟨fun y => ?_, fun y => ⟨Or.inl rfl, h0 (fun z => y ?_)⟩⟩
        · have y2 : er (rl w p 6) = v := (nI_eq (by show er (rl w p 6) < _; omega) (by omega)).mp y
          have y3 : rl w p 6 = t := er_inj _ _ l6 htl (by rw [y2, hv])
          show ev E 61 0 [some (.ref 46), some (.int (I 46 4 + 6))] [] _ T _
          have ea : I 46 4 + 6 = nI (p + 6) := by rw [h4]; exact nI_add p 6
          rw [ea]
          refine qn_byteAt hB (by omega) ?_
          have ec : cv N w (p + 6) = nI (w (p + 6)) := if_pos (by omega)
          have h97 := hlet 6 (by omega)
          have eg : (97 + nI g - 1 : Int32) = nI (96 + g) := by
            have a1 : (97 + nI g : Int32) = nI (96 + g + 1) := by
              have := nI_add 97 g
              rw [show 96 + g + 1 = 97 + g by omega]; exact this
            rw [a1, nI_pred]
          rw [ec, eg]
          refine ⟨fun x => ⟨Or.inr rfl, h1 ?_⟩, fun x => ⟨Or.inl rfl, h0 (fun z => x ?_)⟩⟩
          · have x2 : w (p + 6) = 96 + g := (nI_eq (by omega) (by omega)).mp x
            rw [rl, y3, x2]
          · rw [rl] at z
            rw [(List.cons.inj z).1]
        · rw [rl] at z
          have := (List.cons.inj z).2
          show nI (er (rl w p 6)) = nI v
          rw [this, hv]
      · refine bq_f (fun y => c ((nI_eq (a := n) (b := 7) (by omega) (by omega)).mp y)) ⟨Or.inl rfl, h0 (fun z => c ?_)⟩
        have := congrArg List.length z
        rw [rl_len, List.length_cons, ht6] at this
        omega
  | d + 1, n, hn => by
    have n6 := hB.1
    have hl := le_le (w := w) hp
    have hL := (le_step (w := w) hp (n := n) (by omega)).mpr (by omega)
    unfold t_M_isSeven_6 t_M_isSeven_33
    rw [h4, nI_add]
    refine qn_byteAt hB (by omega) ?_
    refine qn_isSmall (fun z => (hB.2.2.2 _ z).1) (fun _ => ?_) (fun z => absurd hL z)
    refine bq_f (by decide) ?_
    rw [nI_1 n]
    have ih := l_seven hB hp h4 h5 hv ht6 htl hg h1 h0 d (n + 1) (by omega)
    by_cases c : 6 ≤ n
    · refine bq_t (nI_le (a := 6) (b := n) c (by omega)) ?_
      rw [Nat.min_eq_right (by omega)] at ih
      rw [Nat.min_eq_right c]
      exact s_M_isSeven_6 ih
    · refine bq_f (nI_ge (a := n) (b := 6) (by omega) (by omega)) ?_
      show ev E 61 0 [some (.ref 46), some (.int (I 46 4 + nI n))] [] _ T _
      rw [h4, nI_add]
      refine qn_byteAt hB (by omega) ?_
      have ec : cv N w (p + n) = nI (w (p + n)) := if_pos hL.1
      rw [ec, Nat.min_eq_left (by omega)]
      rw [Nat.min_eq_left (by omega), rl, er] at ih
      have h97 := hL.2
      have e1 : (27 * nI (er (rl w p n)) + nI (w (p + n)) - 97 + 1 : Int32) = nI (27 * er (rl w p n) + (w (p + n) - 96)) := by
        have a1 : (27 * nI (er (rl w p n)) : Int32) = nI (27 * er (rl w p n)) := pk_mul 27 _
        have a2 : (nI (27 * er (rl w p n) + w (p + n)) - 97 : Int32) = nI (27 * er (rl w p n) + w (p + n) - 97) := pk_sub (b := 97) (by omega)
        rw [a1, nI_add, a2, nI_1]
        congr 1
        omega
      show ev E 65 6 [some (.ref 46), some (.int (nI v)), some (.int (nI g)), some (.int (27 * nI (er (rl w p n)) + nI (w (p + n)) - 97 + 1)), some (.int (nI (n + 1)))] [] _ T Q
      rw [e1]
      exact s_M_isSeven_6 ih
theorem qn_isSeven {p : Nat} (h : tM I N w p) {t : List Nat} {g v : Nat} (hv : v = er t) (ht6 : t.length = 6) (htl : ∀ x, x ∈ t → 97 ≤ x ∧ x ≤ 122) (hg : 1 ≤ g ∧ g ≤ 26) (h1 : wd N w p = (96 + g) :: t → Q (.inl (some (.int 1))) (m_up I 46 4 (nI (bl N w p))) T) (h0 : wd N w p ≠ (96 + g) :: t → Q (.inl (some (.int 0))) (m_up I 46 4 (nI (bl N w p))) T) : ev E 65 0 [some (.ref 46), some (.int (nI v)), some (.int (nI g)), none, none] [] I T Q := by
  obtain ⟨hB, hp, h4, h5, h6⟩ := h
  have hb := bl_le (w := w) hp
  have hl := le_le (w := w) hb.2
  refine s_M_isSeven_0 ?_
  unfold t_M_isSeven_0
  refine qn_blanks hB hp h4 ?_
  exact l_seven (mB_4 hB _) hb.2 rfl h5 hv ht6 htl hg h1 h0 (le N w (bl N w p) - bl N w p) 0 (by omega)
/-- which word stands here, by the class: fine -/
theorem q_wd3_t {p : Nat} (h : tC I N w p) (h1 : ∀ i, kx W3 (wd N w p) 0 = some i → ∀ J, FR [1] I J → tC J N w (le N w (bl N w p)) → J 1 4 = nI (bl N w p) → Q (.inl (some (.int (nI i)))) J T) (h0 : kx W3 (wd N w p) 0 = none → ∀ J, FR [1] I J → fC J N w 1 (bl N w p) → Q (.inl (some (.int (-1)))) J T) : ev E 34 0 [some (.ref 1), some (.ref 1000003), none, none, none] [] I T Q := by
  obtain ⟨hB, hp, h3, h5, h6⟩ := h
  have hb := bl_le (w := w) hp
  have hl := le_le (w := w) hb.2
  have ht : tC (m_up (m_up I 1 4 (nI (bl N w p))) 1 3 (nI (le N w (bl N w p)))) N w (le N w (bl N w p)) := ⟨hB, hl.2, rfl, h5, h6⟩
  have fr : FR [1] I (m_up (m_up I 1 4 (nI (bl N w p))) 1 3 (nI (le N w (bl N w p)))) := (FR.up (by decide) _ _).trans (FR.up (by decide) _ _)
  refine q_word_3 hB hp h3 (fun i hi => ?_) (fun hi => ?_)
  · rw [tw_kx, W3_eq] at hi
    exact h1 i hi.symm _ fr ht rfl
  · rw [tw_kx, W3_eq] at hi
    refine q_fail_t (k := 1) (q := bl N w p) ht (by omega) (fun J hJ fJ => ?_)
    exact h0 hi.symm J (fr.trans hJ) fJ
theorem q_wd3_f {k q : Nat} (h : fC I N w k q) (hq : ∀ x J, FR [1] I J → fC J N w k q → Q (.inl (some (.int x))) J T) : ev E 34 0 [some (.ref 1), some (.ref 1000003), none, none, none] [] I T Q := by
  obtain ⟨hB, ⟨p, hp, h3⟩, h5, hk, h6⟩ := h
  have hb := bl_le (w := w) hp
  have hl := le_le (w := w) hb.2
  have hf : fC (m_up (m_up I 1 4 (nI (bl N w p))) 1 3 (nI (le N w (bl N w p)))) N w k q := ⟨hB, ⟨_, hl.2, rfl⟩, h5, hk, h6⟩
  have fr : FR [1] I (m_up (m_up I 1 4 (nI (bl N w p))) 1 3 (nI (le N w (bl N w p)))) := (FR.up (by decide) _ _).trans (FR.up (by decide) _ _)
  exact q_word_3 hB hp h3 (fun i _ => hq _ _ fr hf) (fun _ => q_fail_f hf _ _ (hq _ _ fr hf))
/-- which word stands here, by the class: fine -/
theorem q_wd4_t {p : Nat} (h : tC I N w p) (h1 : ∀ i, kx W4 (wd N w p) 0 = some i → ∀ J, FR [1] I J → tC J N w (le N w (bl N w p)) → J 1 4 = nI (bl N w p) → Q (.inl (some (.int (nI i)))) J T) (h0 : kx W4 (wd N w p) 0 = none → ∀ J, FR [1] I J → fC J N w 1 (bl N w p) → Q (.inl (some (.int (-1)))) J T) : ev E 34 0 [some (.ref 1), some (.ref 1000004), none, none, none] [] I T Q := by
  obtain ⟨hB, hp, h3, h5, h6⟩ := h
  have hb := bl_le (w := w) hp
  have hl := le_le (w := w) hb.2
  have ht : tC (m_up (m_up I 1 4 (nI (bl N w p))) 1 3 (nI (le N w (bl N w p)))) N w (le N w (bl N w p)) := ⟨hB, hl.2, rfl, h5, h6⟩
  have fr : FR [1] I (m_up (m_up I 1 4 (nI (bl N w p))) 1 3 (nI (le N w (bl N w p)))) := (FR.up (by decide) _ _).trans (FR.up (by decide) _ _)
  refine q_word_4 hB hp h3 (fun i hi => ?_) (fun hi => ?_)
  · rw [tw_kx, W4_eq] at hi
    exact h1 i hi.symm _ fr ht rfl
  · rw [tw_kx, W4_eq] at hi
    refine q_fail_t (k := 1) (q := bl N w p) ht (by omega) (fun J hJ fJ => ?_)
    exact h0 hi.symm J (fr.trans hJ) fJ
theorem q_wd4_f {k q : Nat} (h : fC I N w k q) (hq : ∀ x J, FR [1] I J → fC J N w k q → Q (.inl (some (.int x))) J T) : ev E 34 0 [some (.ref 1), some (.ref 1000004), none, none, none] [] I T Q := by
  obtain ⟨hB, ⟨p, hp, h3⟩, h5, hk, h6⟩ := h
  have hb := bl_le (w := w) hp
  have hl := le_le (w := w) hb.2
  have hf : fC (m_up (m_up I 1 4 (nI (bl N w p))) 1 3 (nI (le N w (bl N w p)))) N w k q := ⟨hB, ⟨_, hl.2, rfl⟩, h5, hk, h6⟩
  have fr : FR [1] I (m_up (m_up I 1 4 (nI (bl N w p))) 1 3 (nI (le N w (bl N w p)))) := (FR.up (by decide) _ _).trans (FR.up (by decide) _ _)
  exact q_word_4 hB hp h3 (fun i _ => hq _ _ fr hf) (fun _ => q_fail_f hf _ _ (hq _ _ fr hf))
/-- which word stands here, by the class: fine -/
theorem q_wd5_t {p : Nat} (h : tC I N w p) (h1 : ∀ i, kx W5 (wd N w p) 0 = some i → ∀ J, FR [1] I J → tC J N w (le N w (bl N w p)) → J 1 4 = nI (bl N w p) → Q (.inl (some (.int (nI i)))) J T) (h0 : kx W5 (wd N w p) 0 = none → ∀ J, FR [1] I J → fC J N w 1 (bl N w p) → Q (.inl (some (.int (-1)))) J T) : ev E 34 0 [some (.ref 1), some (.ref 1000005), none, none, none] [] I T Q := by
  obtain ⟨hB, hp, h3, h5, h6⟩ := h
  have hb := bl_le (w := w) hp
  have hl := le_le (w := w) hb.2
  have ht : tC (m_up (m_up I 1 4 (nI (bl N w p))) 1 3 (nI (le N w (bl N w p)))) N w (le N w (bl N w p)) := ⟨hB, hl.2, rfl, h5, h6⟩
  have fr : FR [1] I (m_up (m_up I 1 4 (nI (bl N w p))) 1 3 (nI (le N w (bl N w p)))) := (FR.up (by decide) _ _).trans (FR.up (by decide) _ _)
  refine q_word_5 hB hp h3 (fun i hi => ?_) (fun hi => ?_)
  · rw [tw_kx, W5_eq] at hi
    exact h1 i hi.symm _ fr ht rfl
  · rw [tw_kx, W5_eq] at hi
    refine q_fail_t (k := 1) (q := bl N w p) ht (by omega) (fun J hJ fJ => ?_)
    exact h0 hi.symm J (fr.trans hJ) fJ
theorem q_wd5_f {k q : Nat} (h : fC I N w k q) (hq : ∀ x J, FR [1] I J → fC J N w k q → Q (.inl (some (.int x))) J T) : ev E 34 0 [some (.ref 1), some (.ref 1000005), none, none, none] [] I T Q := by
  obtain ⟨hB, ⟨p, hp, h3⟩, h5, hk, h6⟩ := h
  have hb := bl_le (w := w) hp
  have hl := le_le (w := w) hb.2
  have hf : fC (m_up (m_up I 1 4 (nI (bl N w p))) 1 3 (nI (le N w (bl N w p)))) N w k q := ⟨hB, ⟨_, hl.2, rfl⟩, h5, hk, h6⟩
  have fr : FR [1] I (m_up (m_up I 1 4 (nI (bl N w p))) 1 3 (nI (le N w (bl N w p)))) := (FR.up (by decide) _ _).trans (FR.up (by decide) _ _)
  exact q_word_5 hB hp h3 (fun i _ => hq _ _ fr hf) (fun _ => q_fail_f hf _ _ (hq _ _ fr hf))
end MWORD
