/-! ===== texts: begun and ended ===== -/
def keepC (c : Nat) : Prop := c = 0 ∨ coreC c ∨ bookC c ∨ shelC c ∨ imagC c ∨ c = 29 ∨ c = 32 ∨ c = 36 ∨ (39 ≤ c ∧ c ≤ 41) ∨ c = 48 ∨ c = 508
def serC (c : Nat) : Prop := (3 ≤ c ∧ c ≤ 8) ∨ c = 29 ∨ c = 36 ∨ (39 ≤ c ∧ c ≤ 41)
theorem Sr.sub {B K : II} {F S n : Nat} {cd : Nat → Nat × Int32} (h : Sr B F S n cd) (e : ∀ c, serC c → K c = B c) : Sr K F S n cd := by
  have ef : ∀ s, findS K F n cd s = findS B F n cd s := fun s => by
    unfold findS frA
    rw [e 6 (by unfold serC; omega), e 7 (by unfold serC; omega), e 8 (by unfold serC; omega), e 3 (by unfold serC; omega), e 4 (by unfold serC; omega), e 5 (by unfold serC; omega), e 29 (by unfold serC; omega)]
  unfold Sr
  rw [e 36 (by unfold serC; omega), e 39 (by unfold serC; omega), e 40 (by unfold serC; omega), e 41 (by unfold serC; omega)]
  refine ⟨h.1, fun s hs hb => ?_⟩
  rw [ef]
  exact h.2 s hs hb
/-- all but the text is kept -/
theorem Inv_text {B K : II} {F S n : Nat} {cd : Nat → Nat × Int32} (hA : InvA B F S n cd) (e : ∀ c, keepC c → K c = B c) (e46 : ∀ j, j = 19 ∨ (33 ≤ j ∧ j ≤ 36) → K 46 j = B 46 j) (h3 : K 1 6 = K 46 3) (h1 : K 1 1 = 0) (h2 : K 46 1 = 0) : InvA K F S n cd := by
  obtain ⟨hC, hB, hSh, hIm, -, ⟨c1, c2, c3⟩, hSr⟩ := hA
  refine ⟨?_, ?_, ?_, ?_, ⟨h3, 0, by omega, h1, h2, fun j hj => absurd hj (by omega)⟩, ⟨?_, ?_, ?_⟩, hSr.sub (fun c hc => e c (by unfold serC at hc; unfold keepC coreC; omega))⟩
  · exact hC.of (fun c hc => e c (Or.inr (Or.inl hc))) (e46 19 (Or.inl rfl)) (by rw [e 29 (by unfold keepC; omega), e 508 (by unfold keepC; omega)]; exact hC.2.2.2.2.2.2.1) (by rw [e 29 (by unfold keepC; omega)]; exact hC.rv)
  · exact hB.of (fun c hc => e c (Or.inr (Or.inr (Or.inl hc)))) (e46 33 (by omega))
  · exact hSh.of (fun c hc => e c (Or.inr (Or.inr (Or.inr (Or.inl hc))))) (by rw [e 32 (by unfold keepC; omega)]) (e46 34 (by omega))
  · exact hIm.of (fun c hc => e c (Or.inr (Or.inr (Or.inr (Or.inr (Or.inl hc)))))) (by rw [e 32 (by unfold keepC; omega)]) (e46 36 (by omega))
  · rw [e 0 (Or.inl rfl), e46 35 (by omega)]; exact c1
  · rw [e 0 (Or.inl rfl), e 48 (by unfold keepC; omega)]; exact c2
  · rw [e 0 (Or.inl rfl), e 48 (by unfold keepC; omega)]; exact c3
theorem Tx_w {B : II} (h : Tx B) : ∃ (t : Nat) (w : Nat → Nat), t ≤ 600 ∧ B 1 1 = nI t ∧ B 46 1 = nI t ∧ ∀ j, j < t → w j < 256 ∧ B 47 j = nI (w j) ∧ B 2 j = (nI (w j)).toInt8.toInt32 := by
  obtain ⟨-, t, h1, h2, h3, h4⟩ := h
  refine ⟨t, fun j => (B 47 j).toNatClampNeg, h1, h2, h3, fun j hj => ?_⟩
  obtain ⟨b, b1, b2, b3⟩ := h4 j hj
  have e : (B 47 j).toNatClampNeg = b := by rw [b2, nI_clamp (by omega)]
  simp only [e]
  exact ⟨b1, b2, b3⟩
section TBEGIN
variable {E : MEnv} {I : II} {T : TT} {Q : QQ} {w : Nat → Nat}
theorem q_needText (hT : TG T) {t m : Nat} (ht : t ≤ 600) (hm : m ≤ 600) (h1 : I 1 1 = nI t) (x : Int32) (hq : (∃ n, n ≤ t ∧ n ≤ m ∧ x = nI n) → Q (.inl none) I T) (h0 : ¬ (∃ n, n ≤ t ∧ n ≤ m ∧ x = nI n) → Q (.inr 1) (m_up I 0 15 (I 0 15 + 1)) (TX T)) : ev E 26 0 [some (.ref 0), some (.int x), some (.int (nI m))] [] I T Q := by
  refine s_X_needText_0 ?_
  unfold t_X_needText_0
  have e : (if nI m < I 1 1 then nI m else I 1 1) = nI (min m t) := by
    rw [h1]
    by_cases c : m < t
    · rw [if_pos (nI_lt (by omega) (by omega)), Nat.min_eq_left (by omega)]
    · rw [if_neg (nI_nlt (by omega) (by omega)), Nat.min_eq_right (by omega)]
  rw [e]
  refine q_within _ _ _ ?_
  by_cases c : okW x 0 (nI (min m t))
  · obtain ⟨n, h2, h3⟩ := okW_nat (by omega) c
    rw [wI_t c]
    exact q_need hT _ (fun _ => hq ⟨n, by omega, by omega, h3⟩) (fun q => absurd q (by decide))
  · rw [wI_f c]
    refine q_need hT _ (fun q => absurd rfl q) (fun _ => h0 ?_)
    rintro ⟨n, h2, h3, rfl⟩
    exact c ⟨nI_pos (by omega), nI_nlt (by omega) (by omega)⟩
theorem q_begin {n t : Nat} (hn : n ≤ t) (ht : t ≤ 600) (hb : ∀ j, j < t → w j < 256 ∧ I 2 j = (nI (w j)).toInt8.toInt32) (hq : ∀ J, FR [1] I J → tC J n w 0 → Q (.inl none) J T) : ev E 29 0 [some (.ref 1), some (.int (nI n))] [] I T Q := by
  refine s_Text_begin_0 ?_
  unfold t_Text_begin_0
  rw [if_neg (show ¬ (600 : Int32) < nI n from nI_nlt (a := 600) (b := n) (by omega) (by omega))]
  refine hq _ ?_ ⟨⟨by omega, rfl, rfl, fun j hj => hb j (by omega)⟩, by omega, rfl, rfl, rfl⟩
  exact ((((((FR.up (by decide) _ _).trans (FR.up (by decide) _ _)).trans (FR.up (by decide) _ _)).trans (FR.up (by decide) _ _)).trans (FR.up (by decide) _ _)).trans (FR.up (by decide) _ _))
theorem qn_starts {n t : Nat} (hn : n ≤ t) (ht : t ≤ 600) (hb : ∀ j, j < t → w j < 256 ∧ I 47 j = nI (w j)) (hq : ∀ J, FR [46] I J → (∀ j, (j = 0 ∨ j = 3 ∨ 9 ≤ j) → J 46 j = I 46 j) → tM J n w (bl n w 0) → J 46 7 = 0 → J 46 8 = 0 → Q (.inl none) J T) : ev E 59 0 [some (.ref 46), some (.int (nI n))] [] I T Q := by
  refine s_M_starts_0 ?_
  unfold t_M_starts_0
  generalize hJ : m_up (m_up (m_up (m_up (m_up (m_up (m_up I 46 1 0) 46 2 (nI n)) 46 4 0) 46 5 0) 46 6 (-1)) 46 7 0) 46 8 0 = J
  have fr : FR [46] I J := by
    rw [← hJ]
    exact (((((((FR.up (by decide) _ _).trans (FR.up (by decide) _ _)).trans (FR.up (by decide) _ _)).trans (FR.up (by decide) _ _)).trans (FR.up (by decide) _ _)).trans (FR.up (by decide) _ _)).trans (FR.up (by decide) _ _))
  have hB : mB J n w := ⟨by omega, by rw [← hJ]; rfl, by rw [← hJ]; rfl, fun j hj => by rw [fr 47 (by decide)]; exact hb j (by omega)⟩
  have h4 : J 46 4 = nI 0 := by rw [← hJ]; rfl
  have h5 : J 46 5 = 0 := by rw [← hJ]; rfl
  have h6 : J 46 6 = -1 := by rw [← hJ]; rfl
  have h7 : J 46 7 = 0 := by rw [← hJ]; rfl
  have h8 : J 46 8 = 0 := by rw [← hJ]; rfl
  have ho : ∀ j, (j = 0 ∨ j = 3 ∨ 9 ≤ j) → J 46 j = I 46 j := fun j hj => by
    rw [← hJ, m_up_at, if_neg (by omega), m_up_at, if_neg (by omega), m_up_at, if_neg (by omega), m_up_at, if_neg (by omega), m_up_at, if_neg (by omega), m_up_at, if_neg (by omega), m_up_at, if_neg (by omega)]
  refine qn_blanks hB (by omega) h4 ?_
  refine hq _ (fr.trans (FR.up (by decide) _ _)) (fun j hj => ?_) ⟨hB, (bl_le (by omega)).2, rfl, h5, h6⟩ h7 h8
  rw [m_up_at, if_neg (by omega)]
  exact ho j hj
theorem qn_ends (hq : Q (.inl (some (.int (I 46 5 - 10)))) (m_up I 46 3 (I 46 6)) T) : ev E 75 0 [some (.ref 46)] [] I T Q := s_M_ends_0 hq
theorem numR_in {N : Nat} {w : Nat → Nat} {p lo hi v p' : Nat} (h : numR N w p lo hi = .inr (v, p')) : lo ≤ v ∧ v < hi := by
  by_cases c : isD N w (bl N w p)
  · by_cases d : lo ≤ (dgs 10000 w (N - bl N w p) (bl N w p) 0).2 ∧ (dgs 10000 w (N - bl N w p) (bl N w p) 0).2 < hi
    · rw [numR_ok c d] at h
      cases h
      exact d
    · rw [numR_2 c d] at h
      cases h
  · rw [numR_1 c] at h
    cases h
theorem numR_1000 {N : Nat} {w : Nat → Nat} {p lo hi k q : Nat} (h : numR N w p lo hi = .inl (k, q)) : q = bl N w p := by
  by_cases c : isD N w (bl N w p)
  · by_cases d : lo ≤ (dgs 10000 w (N - bl N w p) (bl N w p) 0).2 ∧ (dgs 10000 w (N - bl N w p) (bl N w p) 0).2 < hi
    · rw [numR_ok c d] at h
      cases h
    · rw [numR_2 c d] at h
      cases h
      rfl
  · rw [numR_1 c] at h
    cases h
    rfl
end TBEGIN
section LAYS
variable {E : MEnv} {I : II} {T : TT} {Q : QQ}
theorem l_lays_85 {n : Nat} (hn : n ≤ 160) : ∀ (d k : Nat) (J : II), k + d = n → (∀ c, ¬ (86 ≤ c ∧ c < 86 + k) → J c = I c) → (∀ j, j < k → J (86 + j) 0 = I (247 + j) 0 ∧ J (86 + j) 1 = I (247 + j) 1) → (∀ K, (∀ c, ¬ (86 ≤ c ∧ c < 86 + n) → K c = I c) → (∀ j, j < n → K (86 + j) 0 = I (247 + j) 0 ∧ K (86 + j) 1 = I (247 + j) 1) → Q (.inl none) K T) → t_M_lays_246_85_2 E J T Q (nI n) (nI k)
  | 0, k, J, hk, h1, h2, hq => by
    have e : k = n := by omega
    subst e
    unfold t_M_lays_246_85_2
    exact bq_t (nI_le (by omega) (by omega)) (hq J h1 h2)
  | d + 1, k, J, hk, h1, h2, hq => by
    unfold t_M_lays_246_85_2
    refine bq_f (nI_ge (by omega) (by omega)) ?_
    have g : ¬ nI k < 0 ∧ (nI k).toNatClampNeg < 160 := gix (by omega) (by omega)
    have ck : (nI k).toNatClampNeg = k := nI_clamp (by omega)
    unfold t_M_lays_246_85_7
    refine ⟨g, bq_f (by decide) ⟨g, g, by decide, by decide, ?_⟩⟩
    refine s_M_lays_246_85_7 ?_
    unfold t_M_lays_246_85_7
    refine ⟨g, bq_f (by decide) ⟨g, g, by decide, by decide, ?_⟩⟩
    refine s_M_lays_246_85_7 ?_
    unfold t_M_lays_246_85_7
    refine ⟨g, bq_t (by decide) ?_⟩
    rw [nI_1]
    have z0 : (0 : Int32).toNatClampNeg = 0 := rfl
    have z1 : (0 + 1 : Int32).toNatClampNeg = 1 := rfl
    rw [ck, z0, z1, m_up_ne (show 247 + k ≠ 86 + k by omega)]
    refine s_M_lays_246_85_2 (l_lays_85 hn d (k + 1) _ (by omega) (fun c hc => ?_) (fun j hj => ?_) hq)
    · rw [m_up_ne (by omega), m_up_ne (by omega)]
      exact h1 c (by omega)
    · by_cases e : j = k
      · subst e
        refine ⟨?_, ?_⟩
        · rw [m_up_at, if_neg (by omega), m_up_at, if_pos rfl, h1 (247 + j) (by omega)]
        · rw [m_up_at, if_pos rfl, h1 (247 + j) (by omega)]
      · rw [m_up_ne (by omega), m_up_ne (by omega)]
        exact h2 j (by omega)
theorem q_lays_85 {n : Nat} (hn : n ≤ 160) (hq : ∀ K, (∀ c, ¬ (86 ≤ c ∧ c < 86 + n) → K c = I c) → (∀ j, j < n → K (86 + j) 0 = I (247 + j) 0 ∧ K (86 + j) 1 = I (247 + j) 1) → Q (.inl none) K T) : ev E 20 0 [some (.ref 246), some (.ref 85), some (.int (nI n)), none, none] [] I T Q := s_M_lays_246_85_0 (l_lays_85 hn n 0 I (by omega) (fun _ _ => rfl) (fun j hj => absurd hj (by omega)) hq)
theorem l_lays_407 {n : Nat} (hn : n ≤ 8) : ∀ (d k : Nat) (J : II), k + d = n → (∀ c, ¬ (408 ≤ c ∧ c < 408 + k) → J c = I c) → (∀ j, j < k → J (408 + j) 0 = I (417 + j) 0 ∧ J (408 + j) 1 = I (417 + j) 1) → (∀ K, (∀ c, ¬ (408 ≤ c ∧ c < 408 + n) → K c = I c) → (∀ j, j < n → K (408 + j) 0 = I (417 + j) 0 ∧ K (408 + j) 1 = I (417 + j) 1) → Q (.inl none) K T) → t_M_lays_416_407_2 E J T Q (nI n) (nI k)
  | 0, k, J, hk, h1, h2, hq => by
    have e : k = n := by omega
    subst e
    unfold t_M_lays_416_407_2
    exact bq_t (nI_le (by omega) (by omega)) (hq J h1 h2)
  | d + 1, k, J, hk, h1, h2, hq => by
    unfold t_M_lays_416_407_2
    refine bq_f (nI_ge (by omega) (by omega)) ?_
    have g : ¬ nI k < 0 ∧ (nI k).toNatClampNeg < 8 := gix (by omega) (by omega)
    have ck : (nI k).toNatClampNeg = k := nI_clamp (by omega)
    unfold t_M_lays_416_407_7
    refine ⟨g, bq_f (by decide) ⟨g, g, by decide, by decide, ?_⟩⟩
    refine s_M_lays_416_407_7 ?_
    unfold t_M_lays_416_407_7
    refine ⟨g, bq_f (by decide) ⟨g, g, by decide, by decide, ?_⟩⟩
    refine s_M_lays_416_407_7 ?_
    unfold t_M_lays_416_407_7
    refine ⟨g, bq_t (by decide) ?_⟩
    rw [nI_1]
    have z0 : (0 : Int32).toNatClampNeg = 0 := rfl
    have z1 : (0 + 1 : Int32).toNatClampNeg = 1 := rfl
    rw [ck, z0, z1, m_up_ne (show 417 + k ≠ 408 + k by omega)]
    refine s_M_lays_416_407_2 (l_lays_407 hn d (k + 1) _ (by omega) (fun c hc => ?_) (fun j hj => ?_) hq)
    · rw [m_up_ne (by omega), m_up_ne (by omega)]
      exact h1 c (by omega)
    · by_cases e : j = k
      · subst e
        refine ⟨?_, ?_⟩
        · rw [m_up_at, if_neg (by omega), m_up_at, if_pos rfl, h1 (417 + j) (by omega)]
        · rw [m_up_at, if_pos rfl, h1 (417 + j) (by omega)]
      · rw [m_up_ne (by omega), m_up_ne (by omega)]
        exact h2 j (by omega)
theorem q_lays_407 {n : Nat} (hn : n ≤ 8) (hq : ∀ K, (∀ c, ¬ (408 ≤ c ∧ c < 408 + n) → K c = I c) → (∀ j, j < n → K (408 + j) 0 = I (417 + j) 0 ∧ K (408 + j) 1 = I (417 + j) 1) → Q (.inl none) K T) : ev E 20 0 [some (.ref 416), some (.ref 407), some (.int (nI n)), none, none] [] I T Q := s_M_lays_416_407_0 (l_lays_407 hn n 0 I (by omega) (fun _ _ => rfl) (fun j hj => absurd hj (by omega)) hq)
theorem l_lays_60 {n : Nat} (hn : n ≤ 8) : ∀ (d k : Nat) (J : II), k + d = n → (∀ c, ¬ (61 ≤ c ∧ c < 61 + k) → J c = I c) → (∀ j, j < k → J (61 + j) 0 = I (52 + j) 0 ∧ J (61 + j) 1 = I (52 + j) 1) → (∀ K, (∀ c, ¬ (61 ≤ c ∧ c < 61 + n) → K c = I c) → (∀ j, j < n → K (61 + j) 0 = I (52 + j) 0 ∧ K (61 + j) 1 = I (52 + j) 1) → Q (.inl none) K T) → t_M_lays_51_60_2 E J T Q (nI n) (nI k)
  | 0, k, J, hk, h1, h2, hq => by
    have e : k = n := by omega
    subst e
    unfold t_M_lays_51_60_2
    exact bq_t (nI_le (by omega) (by omega)) (hq J h1 h2)
  | d + 1, k, J, hk, h1, h2, hq => by
    unfold t_M_lays_51_60_2
    refine bq_f (nI_ge (by omega) (by omega)) ?_
    have g : ¬ nI k < 0 ∧ (nI k).toNatClampNeg < 8 := gix (by omega) (by omega)
    have ck : (nI k).toNatClampNeg = k := nI_clamp (by omega)
    unfold t_M_lays_51_60_7
    refine ⟨g, bq_f (by decide) ⟨g, g, by decide, by decide, ?_⟩⟩
    refine s_M_lays_51_60_7 ?_
    unfold t_M_lays_51_60_7
    refine ⟨g, bq_f (by decide) ⟨g, g, by decide, by decide, ?_⟩⟩
    refine s_M_lays_51_60_7 ?_
    unfold t_M_lays_51_60_7
    refine ⟨g, bq_t (by decide) ?_⟩
    rw [nI_1]
    have z0 : (0 : Int32).toNatClampNeg = 0 := rfl
    have z1 : (0 + 1 : Int32).toNatClampNeg = 1 := rfl
    rw [ck, z0, z1, m_up_ne (show 52 + k ≠ 61 + k by omega)]
    refine s_M_lays_51_60_2 (l_lays_60 hn d (k + 1) _ (by omega) (fun c hc => ?_) (fun j hj => ?_) hq)
    · rw [m_up_ne (by omega), m_up_ne (by omega)]
      exact h1 c (by omega)
    · by_cases e : j = k
      · subst e
        refine ⟨?_, ?_⟩
        · rw [m_up_at, if_neg (by omega), m_up_at, if_pos rfl, h1 (52 + j) (by omega)]
        · rw [m_up_at, if_pos rfl, h1 (52 + j) (by omega)]
      · rw [m_up_ne (by omega), m_up_ne (by omega)]
        exact h2 j (by omega)
theorem q_lays_60 {n : Nat} (hn : n ≤ 8) (hq : ∀ K, (∀ c, ¬ (61 ≤ c ∧ c < 61 + n) → K c = I c) → (∀ j, j < n → K (61 + j) 0 = I (52 + j) 0 ∧ K (61 + j) 1 = I (52 + j) 1) → Q (.inl none) K T) : ev E 20 0 [some (.ref 51), some (.ref 60), some (.int (nI n)), none, none] [] I T Q := s_M_lays_51_60_0 (l_lays_60 hn n 0 I (by omega) (fun _ _ => rfl) (fun j hj => absurd hj (by omega)) hq)
theorem l_lays_76 {n : Nat} (hn : n ≤ 6) : ∀ (d k : Nat) (J : II), k + d = n → (∀ c, ¬ (77 ≤ c ∧ c < 77 + k) → J c = I c) → (∀ j, j < k → J (77 + j) 0 = I (70 + j) 0 ∧ J (77 + j) 1 = I (70 + j) 1) → (∀ K, (∀ c, ¬ (77 ≤ c ∧ c < 77 + n) → K c = I c) → (∀ j, j < n → K (77 + j) 0 = I (70 + j) 0 ∧ K (77 + j) 1 = I (70 + j) 1) → Q (.inl none) K T) → t_M_lays_69_76_2 E J T Q (nI n) (nI k)
  | 0, k, J, hk, h1, h2, hq => by
    have e : k = n := by omega
    subst e
    unfold t_M_lays_69_76_2
    exact bq_t (nI_le (by omega) (by omega)) (hq J h1 h2)
  | d + 1, k, J, hk, h1, h2, hq => by
    unfold t_M_lays_69_76_2
    refine bq_f (nI_ge (by omega) (by omega)) ?_
    have g : ¬ nI k < 0 ∧ (nI k).toNatClampNeg < 6 := gix (by omega) (by omega)
    have ck : (nI k).toNatClampNeg = k := nI_clamp (by omega)
    unfold t_M_lays_69_76_7
    refine ⟨g, bq_f (by decide) ⟨g, g, by decide, by decide, ?_⟩⟩
    refine s_M_lays_69_76_7 ?_
    unfold t_M_lays_69_76_7
    refine ⟨g, bq_f (by decide) ⟨g, g, by decide, by decide, ?_⟩⟩
    refine s_M_lays_69_76_7 ?_
    unfold t_M_lays_69_76_7
    refine ⟨g, bq_t (by decide) ?_⟩
    rw [nI_1]
    have z0 : (0 : Int32).toNatClampNeg = 0 := rfl
    have z1 : (0 + 1 : Int32).toNatClampNeg = 1 := rfl
    rw [ck, z0, z1, m_up_ne (show 70 + k ≠ 77 + k by omega)]
    refine s_M_lays_69_76_2 (l_lays_76 hn d (k + 1) _ (by omega) (fun c hc => ?_) (fun j hj => ?_) hq)
    · rw [m_up_ne (by omega), m_up_ne (by omega)]
      exact h1 c (by omega)
    · by_cases e : j = k
      · subst e
        refine ⟨?_, ?_⟩
        · rw [m_up_at, if_neg (by omega), m_up_at, if_pos rfl, h1 (70 + j) (by omega)]
        · rw [m_up_at, if_pos rfl, h1 (70 + j) (by omega)]
      · rw [m_up_ne (by omega), m_up_ne (by omega)]
        exact h2 j (by omega)
theorem q_lays_76 {n : Nat} (hn : n ≤ 6) (hq : ∀ K, (∀ c, ¬ (77 ≤ c ∧ c < 77 + n) → K c = I c) → (∀ j, j < n → K (77 + j) 0 = I (70 + j) 0 ∧ K (77 + j) 1 = I (70 + j) 1) → Q (.inl none) K T) : ev E 20 0 [some (.ref 69), some (.ref 76), some (.int (nI n)), none, none] [] I T Q := s_M_lays_69_76_0 (l_lays_76 hn n 0 I (by omega) (fun _ _ => rfl) (fun j hj => absurd hj (by omega)) hq)
end LAYS
