/-! ===== texts: words by the class; the reference's reader ===== -/
theorem shl0 (n : Int32) : (n >>> ((0 : Int32) &&& 31)) = n := by
  rw [fa_eq, pk_shr n ((0 : Int32) &&& 31) 0 (by decide)]
  simp
def chr_u (k i : Nat) : Nat := ((m_str k).getD i 0).toNatClampNeg
/-- which word of a row of words: blanks stand behind each -/
def tw (s : List Int32) (P : Nat → Nat → Prop) : Nat → Nat → Nat → Nat → Option Nat → Prop
  | 0, _, _, _, r => r = none
  | d + 1, i, a, b, r => if s.getD i 0 = 32 then (P b i ∧ r = some a) ∨ (¬ P b i ∧ tw s P d (i + 1) (a + 1) (i + 1) r) else tw s P d (i + 1) a b r
section WORDS
variable {E : MEnv} {I : II} {T : TT} {Q : QQ} {N : Nat} {w : Nat → Nat}
theorem chr_3 : ∀ i : Fin 26, ((((((((m_str 3).getD i.val 0) &&& 255).toUInt32 % 65536).toInt32).toUInt32 % 65536).toInt32 = (((((m_str 3).getD i.val 0) &&& 255).toUInt32 % 65536).toInt32))) ∧ (((((m_str 3).getD i.val 0) &&& 255).toUInt32 % 65536).toInt32) = nI (chr_u 3 i.val) ∧ chr_u 3 i.val < 128 ∧ ((m_str 3).getD i.val 0 = 32 ↔ nI (chr_u 3 i.val) = 32) := by decide +kernel
theorem q_len_3 (hq : Q (.inl (some (.int 26))) I T) : ev E 37 0 [some (.ref 1000003)] [] I T Q := by
  refine s_Str_length_1000003_0 ?_
  unfold t_Str_length_1000003_0
  refine s_Str_coder_1000003_0 ?_
  unfold t_Str_coder_1000003_0 t_Str_coder_1000003_6
  refine bq_f (by decide) ⟨by decide, ?_⟩
  show Q (.inl (some (.int ((26 : Int32) >>> ((0 : Int32) &&& 31))))) I T
  rw [shl0]
  exact hq
theorem q_chr_3 {i : Nat} (hi : i < 26) (hq : Q (.inl (some (.int (nI (chr_u 3 i))))) I T) : ev E 39 0 [some (.ref 1000003), some (.int (nI i))] [] I T Q := by
  obtain ⟨c1, c2, c3, -⟩ := chr_3 ⟨i, hi⟩
  simp only at c1 c2 c3
  refine s_Str_charAt_1000003_0 ?_
  unfold t_Str_charAt_1000003_0
  refine s_Str_isLatin1_1000003_0 ?_
  unfold t_Str_isLatin1_1000003_0 t_Str_isLatin1_1000003_7 t_Str_isLatin1_1000003_8
  refine bq_f (by decide) (bq_t rfl ⟨Or.inr rfl, bq_f (by decide) ?_⟩)
  refine s_Lat_charAt_1000103_0 ?_
  unfold t_Lat_charAt_1000103_0
  refine s_Str_checkIndex_0 ?_
  unfold t_Str_checkIndex_0
  refine s_Prec_checkIndex_0 ?_
  unfold t_Prec_checkIndex_0
  refine bq_f (nI_pos (by omega)) (bq_t (nI_lt (a := i) (b := 26) hi (by omega)) ⟨gix hi (by omega), ?_⟩)
  rw [nI_clamp (by omega)]
  refine ⟨c1, ?_⟩
  rw [c2]
  refine ⟨?_, hq⟩
  rw [← c2]; exact c1
theorem l_same_3 (hB : cB I N w) {p a b : Nat} (h4 : I 1 4 = nI p) (hab : a ≤ b) (hb : b < 26) (hp : p + (b - a) ≤ N) (h1 : (∀ i, i < b - a → w (p + i) = chr_u 3 (a + i)) → Q (.inl (some (.int 1))) I T) (h0 : ¬ (∀ i, i < b - a → w (p + i) = chr_u 3 (a + i)) → Q (.inl (some (.int 0))) I T) : ∀ (d i : Nat), a + i + d = b → (∀ j, j < i → w (p + j) = chr_u 3 (a + j)) → t_Text_isSame_1000003_13 E I T Q (nI a) (nI b) (nI (a + i))
  | 0, i, hi, hs => by
    unfold t_Text_isSame_1000003_13 t_Text_isSame_1000003_36
    exact bq_t (nI_le (by omega) (by omega)) (h1 (fun j hj => hs j (by omega)))
  | d + 1, i, hi, hs => by
    have n6 := hB.1
    unfold t_Text_isSame_1000003_13 t_Text_isSame_1000003_36
    refine bq_f (nI_ge (by omega) (by omega)) ?_
    refine q_len_3 ?_
    refine bq_f (nI_ge (a := a + i) (b := 26) (by omega) (by omega)) ?_
    show ev E 35 0 [some (.ref 1), some (.int (I 1 4 + nI (a + i) - nI a))] [] _ T _
    rw [h4, nI_add, pk_sub (by omega), show p + (a + i) - a = p + i by omega]
    refine q_byteAt hB (by omega) ?_
    refine q_chr_3 (by omega) ?_
    have e : cv N w (p + i) = nI (w (p + i)) := if_pos (by omega)
    have c3 := (chr_3 ⟨a + i, by omega⟩).2.2.1
    simp only at c3
    have hw := (hB.2.2.2 (p + i) (by omega)).1
    rw [e, nI_1]
    refine ⟨fun c => ?_, fun c => h0 (fun z => c (by rw [z i (by omega)]))⟩
    have c2 : w (p + i) = chr_u 3 (a + i) := (nI_eq (by omega) (by omega)).mp c
    exact s_Text_isSame_1000003_13 (l_same_3 hB h4 hab hb hp h1 h0 d (i + 1) (by omega) (fun j hj => by
      by_cases y : j = i
      · subst y; exact c2
      · exact hs j (by omega)))
theorem q_same_3 (hB : cB I N w) {p p2 a b : Nat} (h4 : I 1 4 = nI p) (h3 : I 1 3 = nI p2) (hpp : p ≤ p2) (hp2 : p2 ≤ N) (hab : a ≤ b) (hb : b < 26) (h1 : rl w p (p2 - p) = rl (chr_u 3) a (b - a) → Q (.inl (some (.int 1))) I T) (h0 : ¬ rl w p (p2 - p) = rl (chr_u 3) a (b - a) → Q (.inl (some (.int 0))) I T) : ev E 44 0 [some (.ref 1), some (.ref 1000003), some (.int (nI a)), some (.int (nI b)), none] [] I T Q := by
  have n6 := hB.1
  refine s_Text_isSame_1000003_0 ?_
  unfold t_Text_isSame_1000003_0
  rw [h3, h4, pk_sub hpp, pk_sub hab]
  by_cases c : p2 - p = b - a
  · rw [c] at h1 h0
    refine bq_t (by rw [c]) ?_
    exact l_same_3 hB h4 hab hb (by omega) (fun z => h1 ((rl_eq _ _).mpr ⟨rfl, z⟩)) (fun z => h0 (fun y => z ((rl_eq _ _).mp y).2)) (b - a) 0 (by omega) (fun j hj => absurd hj (Nat.not_lt_zero j))
  · refine bq_f (fun z => c ((nI_eq (by omega) (by omega)).mp z)) (h0 (fun y => c ((rl_eq _ _).mp y).1))
theorem l_tw_3 (hB : cB I N w) {p p2 : Nat} (h4 : I 1 4 = nI p) (h3 : I 1 3 = nI p2) (hpp : p ≤ p2) (hp2 : p2 ≤ N) (h1 : ∀ i, tw (m_str 3) (fun a b => rl w p (p2 - p) = rl (chr_u 3) a (b - a)) 26 0 0 0 (some i) → Q (.inl (some (.int (nI i)))) I T) (h0 : tw (m_str 3) (fun a b => rl w p (p2 - p) = rl (chr_u 3) a (b - a)) 26 0 0 0 none → ev E 45 0 [some (.ref 1), some (.int 1), some (.int (nI p))] [] I T (KV (fun I2 T2 => Q (.inl (some (.int (-1)))) I2 T2) (fun x I1 T1 => Q (.inr x) I1 T1))) : ∀ (d i a b : Nat), i + d = 26 → b ≤ i → (∀ r, tw (m_str 3) (fun a b => rl w p (p2 - p) = rl (chr_u 3) a (b - a)) d i a b r → tw (m_str 3) (fun a b => rl w p (p2 - p) = rl (chr_u 3) a (b - a)) 26 0 0 0 r) → t_Text_takeWord_1000003_31 E I T Q (nI a) (nI b) (nI i)
  | 0, i, a, b, hi, hb, hr => by
    unfold t_Text_takeWord_1000003_31
    refine q_len_3 ?_
    refine bq_t (nI_le (a := 26) (b := i) (by omega) (by omega)) ?_
    show ev E 45 0 [some (.ref 1), some (.int 1), some (.int (I 1 4))] [] _ T _
    rw [h4]
    exact h0 (hr none rfl)
  | d + 1, i, a, b, hi, hb, hr => by
    unfold t_Text_takeWord_1000003_31 t_Text_takeWord_1000003_53
    refine q_len_3 ?_
    refine bq_f (nI_ge (a := i) (b := 26) (by omega) (by omega)) ?_
    refine q_chr_3 (by omega) ?_
    rw [nI_1 i, nI_1 a]
    have c4 := (chr_3 ⟨i, by omega⟩).2.2.2
    simp only at c4
    refine ⟨fun c => ?_, fun c => ?_⟩
    · have cs := c4.mpr c
      refine q_same_3 hB h4 h3 hpp hp2 hb (by omega) (fun z => ?_) (fun z => ?_)
      · exact bq_f (by decide) (h1 a (hr (some a) (by rw [tw, if_pos cs]; exact Or.inl ⟨z, rfl⟩)))
      · exact bq_t rfl (s_Text_takeWord_1000003_31 (l_tw_3 hB h4 h3 hpp hp2 h1 h0 d (i + 1) (a + 1) (i + 1) (by omega) (by omega) (fun r hr2 => hr r (by rw [tw, if_pos cs]; exact Or.inr ⟨z, hr2⟩))))
    · have cs : ¬ (m_str 3).getD i 0 = 32 := fun z => c (c4.mp z)
      exact s_Text_takeWord_1000003_31 (l_tw_3 hB h4 h3 hpp hp2 h1 h0 d (i + 1) a b (by omega) (by omega) (fun r hr2 => hr r (by rw [tw, if_neg cs]; exact hr2)))
theorem l_lt_3 (hB : cB I N w) : ∀ (d p : Nat), p + d = N → t_Text_takeWord_1000003_25 E (m_up I 1 3 (nI (le N w p))) T Q → t_Text_takeWord_1000003_7 E (m_up I 1 3 (nI p)) T Q
  | 0, p, hp, hq => by
    have n6 := hB.1
    have e : p = N := by omega
    subst e
    unfold t_Text_takeWord_1000003_7
    have k2 : (m_up I 1 3 (nI p)) 1 2 = nI p := hB.2.2.1
    have k3 : (m_up I 1 3 (nI p)) 1 3 = nI p := rfl
    rw [k2, k3]
    rw [le_end] at hq
    exact bq_t (nI_le (Nat.le_refl _) (by omega)) hq
  | d + 1, p, hp, hq => by
    have n6 := hB.1
    unfold t_Text_takeWord_1000003_7
    have k2 : (m_up I 1 3 (nI p)) 1 2 = nI N := hB.2.2.1
    have k3 : (m_up I 1 3 (nI p)) 1 3 = nI p := rfl
    rw [k2, k3]
    refine bq_f (nI_ge (by omega) (by omega)) ?_
    refine q_byteAt (cB_3 hB (nI p)) (by omega) ?_
    refine q_isLetter (fun z => (hB.2.2.2 _ z).1) (fun c => ?_) (fun c => ?_)
    · refine bq_f (by decide) ?_
      show ev E 34 7 [some (.ref 1), some (.ref 1000003), none, none, none] [] (m_up (m_up I 1 3 (nI p)) 1 3 (nI p + 1)) T Q
      rw [up_up, nI_1]
      rw [le_S (by omega), if_pos c.2] at hq
      exact s_Text_takeWord_1000003_7 (l_lt_3 hB d (p + 1) (by omega) hq)
    · rw [le_S (by omega), if_neg (fun z => c ⟨by omega, z⟩)] at hq
      exact bq_t rfl hq
/-- which word stands here, by the class -/
theorem q_word_3 {p : Nat} (hB : cB I N w) (hp : p ≤ N) (h3 : I 1 3 = nI p) (h1 : ∀ i, tw (m_str 3) (fun a b => wd N w p = rl (chr_u 3) a (b - a)) 26 0 0 0 (some i) → Q (.inl (some (.int (nI i)))) (m_up (m_up I 1 4 (nI (bl N w p))) 1 3 (nI (le N w (bl N w p)))) T) (h0 : tw (m_str 3) (fun a b => wd N w p = rl (chr_u 3) a (b - a)) 26 0 0 0 none → ev E 45 0 [some (.ref 1), some (.int 1), some (.int (nI (bl N w p)))] [] (m_up (m_up I 1 4 (nI (bl N w p))) 1 3 (nI (le N w (bl N w p)))) T (KV (fun I2 T2 => Q (.inl (some (.int (-1)))) I2 T2) (fun x I1 T1 => Q (.inr x) I1 T1))) : ev E 34 0 [some (.ref 1), some (.ref 1000003), none, none, none] [] I T Q := by
  have hb := bl_le (w := w) hp
  have hl := le_le (w := w) hb.2
  refine s_Text_takeWord_1000003_0 ?_
  unfold t_Text_takeWord_1000003_0
  refine q_peekP hB hp h3 ?_
  have e4 : (m_up I 1 3 (nI (bl N w p))) 1 3 = nI (bl N w p) := rfl
  show t_Text_takeWord_1000003_7 E (m_up (m_up I 1 3 (nI (bl N w p))) 1 4 ((m_up I 1 3 (nI (bl N w p))) 1 3)) T Q
  have eI : m_up (m_up I 1 3 (nI (bl N w p))) 1 4 (nI (bl N w p)) = m_up (m_up I 1 4 (nI (bl N w p))) 1 3 (nI (bl N w p)) := by
    funext c j
    unfold m_up
    by_cases a : c = 1
    · subst a
      simp only [if_true]
      by_cases b : j = 4
      · subst b; rfl
      · by_cases b2 : j = 3
        · subst b2; rfl
        · simp only [if_neg b, if_neg b2]
    · simp only [if_neg a]
  rw [e4, eI]
  refine l_lt_3 (cB_4 hB _) (N - bl N w p) (bl N w p) (by omega) ?_
  unfold t_Text_takeWord_1000003_25
  exact l_tw_3 (p := bl N w p) (p2 := le N w (bl N w p)) (cB_3 (cB_4 hB _) _) rfl rfl hl.1 hl.2 h1 h0 26 0 0 0 (by omega) (by omega) (fun r hr => hr)
theorem chr_4 : ∀ i : Fin 56, ((((((((m_str 4).getD i.val 0) &&& 255).toUInt32 % 65536).toInt32).toUInt32 % 65536).toInt32 = (((((m_str 4).getD i.val 0) &&& 255).toUInt32 % 65536).toInt32))) ∧ (((((m_str 4).getD i.val 0) &&& 255).toUInt32 % 65536).toInt32) = nI (chr_u 4 i.val) ∧ chr_u 4 i.val < 128 ∧ ((m_str 4).getD i.val 0 = 32 ↔ nI (chr_u 4 i.val) = 32) := by decide +kernel
theorem q_len_4 (hq : Q (.inl (some (.int 56))) I T) : ev E 37 0 [some (.ref 1000004)] [] I T Q := by
  refine s_Str_length_1000004_0 ?_
  unfold t_Str_length_1000004_0
  refine s_Str_coder_1000004_0 ?_
  unfold t_Str_coder_1000004_0 t_Str_coder_1000004_6
  refine bq_f (by decide) ⟨by decide, ?_⟩
  show Q (.inl (some (.int ((56 : Int32) >>> ((0 : Int32) &&& 31))))) I T
  rw [shl0]
  exact hq
theorem q_chr_4 {i : Nat} (hi : i < 56) (hq : Q (.inl (some (.int (nI (chr_u 4 i))))) I T) : ev E 39 0 [some (.ref 1000004), some (.int (nI i))] [] I T Q := by
  obtain ⟨c1, c2, c3, -⟩ := chr_4 ⟨i, hi⟩
  simp only at c1 c2 c3
  refine s_Str_charAt_1000004_0 ?_
  unfold t_Str_charAt_1000004_0
  refine s_Str_isLatin1_1000004_0 ?_
  unfold t_Str_isLatin1_1000004_0 t_Str_isLatin1_1000004_7 t_Str_isLatin1_1000004_8
  refine bq_f (by decide) (bq_t rfl ⟨Or.inr rfl, bq_f (by decide) ?_⟩)
  refine s_Lat_charAt_1000104_0 ?_
  unfold t_Lat_charAt_1000104_0
  refine s_Str_checkIndex_0 ?_
  unfold t_Str_checkIndex_0
  refine s_Prec_checkIndex_0 ?_
  unfold t_Prec_checkIndex_0
  refine bq_f (nI_pos (by omega)) (bq_t (nI_lt (a := i) (b := 56) hi (by omega)) ⟨gix hi (by omega), ?_⟩)
  rw [nI_clamp (by omega)]
  refine ⟨c1, ?_⟩
  rw [c2]
  refine ⟨?_, hq⟩
  rw [← c2]; exact c1
theorem l_same_4 (hB : cB I N w) {p a b : Nat} (h4 : I 1 4 = nI p) (hab : a ≤ b) (hb : b < 56) (hp : p + (b - a) ≤ N) (h1 : (∀ i, i < b - a → w (p + i) = chr_u 4 (a + i)) → Q (.inl (some (.int 1))) I T) (h0 : ¬ (∀ i, i < b - a → w (p + i) = chr_u 4 (a + i)) → Q (.inl (some (.int 0))) I T) : ∀ (d i : Nat), a + i + d = b → (∀ j, j < i → w (p + j) = chr_u 4 (a + j)) → t_Text_isSame_1000004_13 E I T Q (nI a) (nI b) (nI (a + i))
  | 0, i, hi, hs => by
    unfold t_Text_isSame_1000004_13 t_Text_isSame_1000004_36
    exact bq_t (nI_le (by omega) (by omega)) (h1 (fun j hj => hs j (by omega)))
  | d + 1, i, hi, hs => by
    have n6 := hB.1
    unfold t_Text_isSame_1000004_13 t_Text_isSame_1000004_36
    refine bq_f (nI_ge (by omega) (by omega)) ?_
    refine q_len_4 ?_
    refine bq_f (nI_ge (a := a + i) (b := 56) (by omega) (by omega)) ?_
    show ev E 35 0 [some (.ref 1), some (.int (I 1 4 + nI (a + i) - nI a))] [] _ T _
    rw [h4, nI_add, pk_sub (by omega), show p + (a + i) - a = p + i by omega]
    refine q_byteAt hB (by omega) ?_
    refine q_chr_4 (by omega) ?_
    have e : cv N w (p + i) = nI (w (p + i)) := if_pos (by omega)
    have c3 := (chr_4 ⟨a + i, by omega⟩).2.2.1
    simp only at c3
    have hw := (hB.2.2.2 (p + i) (by omega)).1
    rw [e, nI_1]
    refine ⟨fun c => ?_, fun c => h0 (fun z => c (by rw [z i (by omega)]))⟩
    have c2 : w (p + i) = chr_u 4 (a + i) := (nI_eq (by omega) (by omega)).mp c
    exact s_Text_isSame_1000004_13 (l_same_4 hB h4 hab hb hp h1 h0 d (i + 1) (by omega) (fun j hj => by
      by_cases y : j = i
      · subst y; exact c2
      · exact hs j (by omega)))
theorem q_same_4 (hB : cB I N w) {p p2 a b : Nat} (h4 : I 1 4 = nI p) (h3 : I 1 3 = nI p2) (hpp : p ≤ p2) (hp2 : p2 ≤ N) (hab : a ≤ b) (hb : b < 56) (h1 : rl w p (p2 - p) = rl (chr_u 4) a (b - a) → Q (.inl (some (.int 1))) I T) (h0 : ¬ rl w p (p2 - p) = rl (chr_u 4) a (b - a) → Q (.inl (some (.int 0))) I T) : ev E 44 0 [some (.ref 1), some (.ref 1000004), some (.int (nI a)), some (.int (nI b)), none] [] I T Q := by
  have n6 := hB.1
  refine s_Text_isSame_1000004_0 ?_
  unfold t_Text_isSame_1000004_0
  rw [h3, h4, pk_sub hpp, pk_sub hab]
  by_cases c : p2 - p = b - a
  · rw [c] at h1 h0
    refine bq_t (by rw [c]) ?_
    exact l_same_4 hB h4 hab hb (by omega) (fun z => h1 ((rl_eq _ _).mpr ⟨rfl, z⟩)) (fun z => h0 (fun y => z ((rl_eq _ _).mp y).2)) (b - a) 0 (by omega) (fun j hj => absurd hj (Nat.not_lt_zero j))
  · refine bq_f (fun z => c ((nI_eq (by omega) (by omega)).mp z)) (h0 (fun y => c ((rl_eq _ _).mp y).1))
theorem l_tw_4 (hB : cB I N w) {p p2 : Nat} (h4 : I 1 4 = nI p) (h3 : I 1 3 = nI p2) (hpp : p ≤ p2) (hp2 : p2 ≤ N) (h1 : ∀ i, tw (m_str 4) (fun a b => rl w p (p2 - p) = rl (chr_u 4) a (b - a)) 56 0 0 0 (some i) → Q (.inl (some (.int (nI i)))) I T) (h0 : tw (m_str 4) (fun a b => rl w p (p2 - p) = rl (chr_u 4) a (b - a)) 56 0 0 0 none → ev E 45 0 [some (.ref 1), some (.int 1), some (.int (nI p))] [] I T (KV (fun I2 T2 => Q (.inl (some (.int (-1)))) I2 T2) (fun x I1 T1 => Q (.inr x) I1 T1))) : ∀ (d i a b : Nat), i + d = 56 → b ≤ i → (∀ r, tw (m_str 4) (fun a b => rl w p (p2 - p) = rl (chr_u 4) a (b - a)) d i a b r → tw (m_str 4) (fun a b => rl w p (p2 - p) = rl (chr_u 4) a (b - a)) 56 0 0 0 r) → t_Text_takeWord_1000004_31 E I T Q (nI a) (nI b) (nI i)
  | 0, i, a, b, hi, hb, hr => by
    unfold t_Text_takeWord_1000004_31
    refine q_len_4 ?_
    refine bq_t (nI_le (a := 56) (b := i) (by omega) (by omega)) ?_
    show ev E 45 0 [some (.ref 1), some (.int 1), some (.int (I 1 4))] [] _ T _
    rw [h4]
    exact h0 (hr none rfl)
  | d + 1, i, a, b, hi, hb, hr => by
    unfold t_Text_takeWord_1000004_31 t_Text_takeWord_1000004_53
    refine q_len_4 ?_
    refine bq_f (nI_ge (a := i) (b := 56) (by omega) (by omega)) ?_
    refine q_chr_4 (by omega) ?_
    rw [nI_1 i, nI_1 a]
    have c4 := (chr_4 ⟨i, by omega⟩).2.2.2
    simp only at c4
    refine ⟨fun c => ?_, fun c => ?_⟩
    · have cs := c4.mpr c
      refine q_same_4 hB h4 h3 hpp hp2 hb (by omega) (fun z => ?_) (fun z => ?_)
      · exact bq_f (by decide) (h1 a (hr (some a) (by rw [tw, if_pos cs]; exact Or.inl ⟨z, rfl⟩)))
      · exact bq_t rfl (s_Text_takeWord_1000004_31 (l_tw_4 hB h4 h3 hpp hp2 h1 h0 d (i + 1) (a + 1) (i + 1) (by omega) (by omega) (fun r hr2 => hr r (by rw [tw, if_pos cs]; exact Or.inr ⟨z, hr2⟩))))
    · have cs : ¬ (m_str 4).getD i 0 = 32 := fun z => c (c4.mp z)
      exact s_Text_takeWord_1000004_31 (l_tw_4 hB h4 h3 hpp hp2 h1 h0 d (i + 1) a b (by omega) (by omega) (fun r hr2 => hr r (by rw [tw, if_neg cs]; exact hr2)))
theorem l_lt_4 (hB : cB I N w) : ∀ (d p : Nat), p + d = N → t_Text_takeWord_1000004_25 E (m_up I 1 3 (nI (le N w p))) T Q → t_Text_takeWord_1000004_7 E (m_up I 1 3 (nI p)) T Q
  | 0, p, hp, hq => by
    have n6 := hB.1
    have e : p = N := by omega
    subst e
    unfold t_Text_takeWord_1000004_7
    have k2 : (m_up I 1 3 (nI p)) 1 2 = nI p := hB.2.2.1
    have k3 : (m_up I 1 3 (nI p)) 1 3 = nI p := rfl
    rw [k2, k3]
    rw [le_end] at hq
    exact bq_t (nI_le (Nat.le_refl _) (by omega)) hq
  | d + 1, p, hp, hq => by
    have n6 := hB.1
    unfold t_Text_takeWord_1000004_7
    have k2 : (m_up I 1 3 (nI p)) 1 2 = nI N := hB.2.2.1
    have k3 : (m_up I 1 3 (nI p)) 1 3 = nI p := rfl
    rw [k2, k3]
    refine bq_f (nI_ge (by omega) (by omega)) ?_
    refine q_byteAt (cB_3 hB (nI p)) (by omega) ?_
    refine q_isLetter (fun z => (hB.2.2.2 _ z).1) (fun c => ?_) (fun c => ?_)
    · refine bq_f (by decide) ?_
      show ev E 34 7 [some (.ref 1), some (.ref 1000004), none, none, none] [] (m_up (m_up I 1 3 (nI p)) 1 3 (nI p + 1)) T Q
      rw [up_up, nI_1]
      rw [le_S (by omega), if_pos c.2] at hq
      exact s_Text_takeWord_1000004_7 (l_lt_4 hB d (p + 1) (by omega) hq)
    · rw [le_S (by omega), if_neg (fun z => c ⟨by omega, z⟩)] at hq
      exact bq_t rfl hq
/-- which word stands here, by the class -/
theorem q_word_4 {p : Nat} (hB : cB I N w) (hp : p ≤ N) (h3 : I 1 3 = nI p) (h1 : ∀ i, tw (m_str 4) (fun a b => wd N w p = rl (chr_u 4) a (b - a)) 56 0 0 0 (some i) → Q (.inl (some (.int (nI i)))) (m_up (m_up I 1 4 (nI (bl N w p))) 1 3 (nI (le N w (bl N w p)))) T) (h0 : tw (m_str 4) (fun a b => wd N w p = rl (chr_u 4) a (b - a)) 56 0 0 0 none → ev E 45 0 [some (.ref 1), some (.int 1), some (.int (nI (bl N w p)))] [] (m_up (m_up I 1 4 (nI (bl N w p))) 1 3 (nI (le N w (bl N w p)))) T (KV (fun I2 T2 => Q (.inl (some (.int (-1)))) I2 T2) (fun x I1 T1 => Q (.inr x) I1 T1))) : ev E 34 0 [some (.ref 1), some (.ref 1000004), none, none, none] [] I T Q := by
  have hb := bl_le (w := w) hp
  have hl := le_le (w := w) hb.2
  refine s_Text_takeWord_1000004_0 ?_
  unfold t_Text_takeWord_1000004_0
  refine q_peekP hB hp h3 ?_
  have e4 : (m_up I 1 3 (nI (bl N w p))) 1 3 = nI (bl N w p) := rfl
  show t_Text_takeWord_1000004_7 E (m_up (m_up I 1 3 (nI (bl N w p))) 1 4 ((m_up I 1 3 (nI (bl N w p))) 1 3)) T Q
  have eI : m_up (m_up I 1 3 (nI (bl N w p))) 1 4 (nI (bl N w p)) = m_up (m_up I 1 4 (nI (bl N w p))) 1 3 (nI (bl N w p)) := by
    funext c j
    unfold m_up
    by_cases a : c = 1
    · subst a
      simp only [if_true]
      by_cases b : j = 4
      · subst b; rfl
      · by_cases b2 : j = 3
        · subst b2; rfl
        · simp only [if_neg b, if_neg b2]
    · simp only [if_neg a]
  rw [e4, eI]
  refine l_lt_4 (cB_4 hB _) (N - bl N w p) (bl N w p) (by omega) ?_
  unfold t_Text_takeWord_1000004_25
  exact l_tw_4 (p := bl N w p) (p2 := le N w (bl N w p)) (cB_3 (cB_4 hB _) _) rfl rfl hl.1 hl.2 h1 h0 56 0 0 0 (by omega) (by omega) (fun r hr => hr)
theorem chr_5 : ∀ i : Fin 35, ((((((((m_str 5).getD i.val 0) &&& 255).toUInt32 % 65536).toInt32).toUInt32 % 65536).toInt32 = (((((m_str 5).getD i.val 0) &&& 255).toUInt32 % 65536).toInt32))) ∧ (((((m_str 5).getD i.val 0) &&& 255).toUInt32 % 65536).toInt32) = nI (chr_u 5 i.val) ∧ chr_u 5 i.val < 128 ∧ ((m_str 5).getD i.val 0 = 32 ↔ nI (chr_u 5 i.val) = 32) := by decide +kernel
theorem q_len_5 (hq : Q (.inl (some (.int 35))) I T) : ev E 37 0 [some (.ref 1000005)] [] I T Q := by
  refine s_Str_length_1000005_0 ?_
  unfold t_Str_length_1000005_0
  refine s_Str_coder_1000005_0 ?_
  unfold t_Str_coder_1000005_0 t_Str_coder_1000005_6
  refine bq_f (by decide) ⟨by decide, ?_⟩
  show Q (.inl (some (.int ((35 : Int32) >>> ((0 : Int32) &&& 31))))) I T
  rw [shl0]
  exact hq
theorem q_chr_5 {i : Nat} (hi : i < 35) (hq : Q (.inl (some (.int (nI (chr_u 5 i))))) I T) : ev E 39 0 [some (.ref 1000005), some (.int (nI i))] [] I T Q := by
  obtain ⟨c1, c2, c3, -⟩ := chr_5 ⟨i, hi⟩
  simp only at c1 c2 c3
  refine s_Str_charAt_1000005_0 ?_
  unfold t_Str_charAt_1000005_0
  refine s_Str_isLatin1_1000005_0 ?_
  unfold t_Str_isLatin1_1000005_0 t_Str_isLatin1_1000005_7 t_Str_isLatin1_1000005_8
  refine bq_f (by decide) (bq_t rfl ⟨Or.inr rfl, bq_f (by decide) ?_⟩)
  refine s_Lat_charAt_1000105_0 ?_
  unfold t_Lat_charAt_1000105_0
  refine s_Str_checkIndex_0 ?_
  unfold t_Str_checkIndex_0
  refine s_Prec_checkIndex_0 ?_
  unfold t_Prec_checkIndex_0
  refine bq_f (nI_pos (by omega)) (bq_t (nI_lt (a := i) (b := 35) hi (by omega)) ⟨gix hi (by omega), ?_⟩)
  rw [nI_clamp (by omega)]
  refine ⟨c1, ?_⟩
  rw [c2]
  refine ⟨?_, hq⟩
  rw [← c2]; exact c1
theorem l_same_5 (hB : cB I N w) {p a b : Nat} (h4 : I 1 4 = nI p) (hab : a ≤ b) (hb : b < 35) (hp : p + (b - a) ≤ N) (h1 : (∀ i, i < b - a → w (p + i) = chr_u 5 (a + i)) → Q (.inl (some (.int 1))) I T) (h0 : ¬ (∀ i, i < b - a → w (p + i) = chr_u 5 (a + i)) → Q (.inl (some (.int 0))) I T) : ∀ (d i : Nat), a + i + d = b → (∀ j, j < i → w (p + j) = chr_u 5 (a + j)) → t_Text_isSame_1000005_13 E I T Q (nI a) (nI b) (nI (a + i))
  | 0, i, hi, hs => by
    unfold t_Text_isSame_1000005_13 t_Text_isSame_1000005_36
    exact bq_t (nI_le (by omega) (by omega)) (h1 (fun j hj => hs j (by omega)))
  | d + 1, i, hi, hs => by
    have n6 := hB.1
    unfold t_Text_isSame_1000005_13 t_Text_isSame_1000005_36
    refine bq_f (nI_ge (by omega) (by omega)) ?_
    refine q_len_5 ?_
    refine bq_f (nI_ge (a := a + i) (b := 35) (by omega) (by omega)) ?_
    show ev E 35 0 [some (.ref 1), some (.int (I 1 4 + nI (a + i) - nI a))] [] _ T _
    rw [h4, nI_add, pk_sub (by omega), show p + (a + i) - a = p + i by omega]
    refine q_byteAt hB (by omega) ?_
    refine q_chr_5 (by omega) ?_
    have e : cv N w (p + i) = nI (w (p + i)) := if_pos (by omega)
    have c3 := (chr_5 ⟨a + i, by omega⟩).2.2.1
    simp only at c3
    have hw := (hB.2.2.2 (p + i) (by omega)).1
    rw [e, nI_1]
    refine ⟨fun c => ?_, fun c => h0 (fun z => c (by rw [z i (by omega)]))⟩
    have c2 : w (p + i) = chr_u 5 (a + i) := (nI_eq (by omega) (by omega)).mp c
    exact s_Text_isSame_1000005_13 (l_same_5 hB h4 hab hb hp h1 h0 d (i + 1) (by omega) (fun j hj => by
      by_cases y : j = i
      · subst y; exact c2
      · exact hs j (by omega)))
theorem q_same_5 (hB : cB I N w) {p p2 a b : Nat} (h4 : I 1 4 = nI p) (h3 : I 1 3 = nI p2) (hpp : p ≤ p2) (hp2 : p2 ≤ N) (hab : a ≤ b) (hb : b < 35) (h1 : rl w p (p2 - p) = rl (chr_u 5) a (b - a) → Q (.inl (some (.int 1))) I T) (h0 : ¬ rl w p (p2 - p) = rl (chr_u 5) a (b - a) → Q (.inl (some (.int 0))) I T) : ev E 44 0 [some (.ref 1), some (.ref 1000005), some (.int (nI a)), some (.int (nI b)), none] [] I T Q := by
  have n6 := hB.1
  refine s_Text_isSame_1000005_0 ?_
  unfold t_Text_isSame_1000005_0
  rw [h3, h4, pk_sub hpp, pk_sub hab]
  by_cases c : p2 - p = b - a
  · rw [c] at h1 h0
    refine bq_t (by rw [c]) ?_
    exact l_same_5 hB h4 hab hb (by omega) (fun z => h1 ((rl_eq _ _).mpr ⟨rfl, z⟩)) (fun z => h0 (fun y => z ((rl_eq _ _).mp y).2)) (b - a) 0 (by omega) (fun j hj => absurd hj (Nat.not_lt_zero j))
  · refine bq_f (fun z => c ((nI_eq (by omega) (by omega)).mp z)) (h0 (fun y => c ((rl_eq _ _).mp y).1))
theorem l_tw_5 (hB : cB I N w) {p p2 : Nat} (h4 : I 1 4 = nI p) (h3 : I 1 3 = nI p2) (hpp : p ≤ p2) (hp2 : p2 ≤ N) (h1 : ∀ i, tw (m_str 5) (fun a b => rl w p (p2 - p) = rl (chr_u 5) a (b - a)) 35 0 0 0 (some i) → Q (.inl (some (.int (nI i)))) I T) (h0 : tw (m_str 5) (fun a b => rl w p (p2 - p) = rl (chr_u 5) a (b - a)) 35 0 0 0 none → ev E 45 0 [some (.ref 1), some (.int 1), some (.int (nI p))] [] I T (KV (fun I2 T2 => Q (.inl (some (.int (-1)))) I2 T2) (fun x I1 T1 => Q (.inr x) I1 T1))) : ∀ (d i a b : Nat), i + d = 35 → b ≤ i → (∀ r, tw (m_str 5) (fun a b => rl w p (p2 - p) = rl (chr_u 5) a (b - a)) d i a b r → tw (m_str 5) (fun a b => rl w p (p2 - p) = rl (chr_u 5) a (b - a)) 35 0 0 0 r) → t_Text_takeWord_1000005_31 E I T Q (nI a) (nI b) (nI i)
  | 0, i, a, b, hi, hb, hr => by
    unfold t_Text_takeWord_1000005_31
    refine q_len_5 ?_
    refine bq_t (nI_le (a := 35) (b := i) (by omega) (by omega)) ?_
    show ev E 45 0 [some (.ref 1), some (.int 1), some (.int (I 1 4))] [] _ T _
    rw [h4]
    exact h0 (hr none rfl)
  | d + 1, i, a, b, hi, hb, hr => by
    unfold t_Text_takeWord_1000005_31 t_Text_takeWord_1000005_53
    refine q_len_5 ?_
    refine bq_f (nI_ge (a := i) (b := 35) (by omega) (by omega)) ?_
    refine q_chr_5 (by omega) ?_
    rw [nI_1 i, nI_1 a]
    have c4 := (chr_5 ⟨i, by omega⟩).2.2.2
    simp only at c4
    refine ⟨fun c => ?_, fun c => ?_⟩
    · have cs := c4.mpr c
      refine q_same_5 hB h4 h3 hpp hp2 hb (by omega) (fun z => ?_) (fun z => ?_)
      · exact bq_f (by decide) (h1 a (hr (some a) (by rw [tw, if_pos cs]; exact Or.inl ⟨z, rfl⟩)))
      · exact bq_t rfl (s_Text_takeWord_1000005_31 (l_tw_5 hB h4 h3 hpp hp2 h1 h0 d (i + 1) (a + 1) (i + 1) (by omega) (by omega) (fun r hr2 => hr r (by rw [tw, if_pos cs]; exact Or.inr ⟨z, hr2⟩))))
    · have cs : ¬ (m_str 5).getD i 0 = 32 := fun z => c (c4.mp z)
      exact s_Text_takeWord_1000005_31 (l_tw_5 hB h4 h3 hpp hp2 h1 h0 d (i + 1) a b (by omega) (by omega) (fun r hr2 => hr r (by rw [tw, if_neg cs]; exact hr2)))
theorem l_lt_5 (hB : cB I N w) : ∀ (d p : Nat), p + d = N → t_Text_takeWord_1000005_25 E (m_up I 1 3 (nI (le N w p))) T Q → t_Text_takeWord_1000005_7 E (m_up I 1 3 (nI p)) T Q
  | 0, p, hp, hq => by
    have n6 := hB.1
    have e : p = N := by omega
    subst e
    unfold t_Text_takeWord_1000005_7
    have k2 : (m_up I 1 3 (nI p)) 1 2 = nI p := hB.2.2.1
    have k3 : (m_up I 1 3 (nI p)) 1 3 = nI p := rfl
    rw [k2, k3]
    rw [le_end] at hq
    exact bq_t (nI_le (Nat.le_refl _) (by omega)) hq
  | d + 1, p, hp, hq => by
    have n6 := hB.1
    unfold t_Text_takeWord_1000005_7
    have k2 : (m_up I 1 3 (nI p)) 1 2 = nI N := hB.2.2.1
    have k3 : (m_up I 1 3 (nI p)) 1 3 = nI p := rfl
    rw [k2, k3]
    refine bq_f (nI_ge (by omega) (by omega)) ?_
    refine q_byteAt (cB_3 hB (nI p)) (by omega) ?_
    refine q_isLetter (fun z => (hB.2.2.2 _ z).1) (fun c => ?_) (fun c => ?_)
    · refine bq_f (by decide) ?_
      show ev E 34 7 [some (.ref 1), some (.ref 1000005), none, none, none] [] (m_up (m_up I 1 3 (nI p)) 1 3 (nI p + 1)) T Q
      rw [up_up, nI_1]
      rw [le_S (by omega), if_pos c.2] at hq
      exact s_Text_takeWord_1000005_7 (l_lt_5 hB d (p + 1) (by omega) hq)
    · rw [le_S (by omega), if_neg (fun z => c ⟨by omega, z⟩)] at hq
      exact bq_t rfl hq
/-- which word stands here, by the class -/
theorem q_word_5 {p : Nat} (hB : cB I N w) (hp : p ≤ N) (h3 : I 1 3 = nI p) (h1 : ∀ i, tw (m_str 5) (fun a b => wd N w p = rl (chr_u 5) a (b - a)) 35 0 0 0 (some i) → Q (.inl (some (.int (nI i)))) (m_up (m_up I 1 4 (nI (bl N w p))) 1 3 (nI (le N w (bl N w p)))) T) (h0 : tw (m_str 5) (fun a b => wd N w p = rl (chr_u 5) a (b - a)) 35 0 0 0 none → ev E 45 0 [some (.ref 1), some (.int 1), some (.int (nI (bl N w p)))] [] (m_up (m_up I 1 4 (nI (bl N w p))) 1 3 (nI (le N w (bl N w p)))) T (KV (fun I2 T2 => Q (.inl (some (.int (-1)))) I2 T2) (fun x I1 T1 => Q (.inr x) I1 T1))) : ev E 34 0 [some (.ref 1), some (.ref 1000005), none, none, none] [] I T Q := by
  have hb := bl_le (w := w) hp
  have hl := le_le (w := w) hb.2
  refine s_Text_takeWord_1000005_0 ?_
  unfold t_Text_takeWord_1000005_0
  refine q_peekP hB hp h3 ?_
  have e4 : (m_up I 1 3 (nI (bl N w p))) 1 3 = nI (bl N w p) := rfl
  show t_Text_takeWord_1000005_7 E (m_up (m_up I 1 3 (nI (bl N w p))) 1 4 ((m_up I 1 3 (nI (bl N w p))) 1 3)) T Q
  have eI : m_up (m_up I 1 3 (nI (bl N w p))) 1 4 (nI (bl N w p)) = m_up (m_up I 1 4 (nI (bl N w p))) 1 3 (nI (bl N w p)) := by
    funext c j
    unfold m_up
    by_cases a : c = 1
    · subst a
      simp only [if_true]
      by_cases b : j = 4
      · subst b; rfl
      · by_cases b2 : j = 3
        · subst b2; rfl
        · simp only [if_neg b, if_neg b2]
    · simp only [if_neg a]
  rw [e4, eI]
  refine l_lt_5 (cB_4 hB _) (N - bl N w p) (bl N w p) (by omega) ?_
  unfold t_Text_takeWord_1000005_25
  exact l_tw_5 (p := bl N w p) (p2 := le N w (bl N w p)) (cB_3 (cB_4 hB _) _) rfl rfl hl.1 hl.2 h1 h0 35 0 0 0 (by omega) (by omega) (fun r hr => hr)
end WORDS
