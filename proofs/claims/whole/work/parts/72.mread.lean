/-! ===== texts: the reference's reader ===== -/
/-- which of the words -/
def kx : List (List Nat) → List Nat → Nat → Option Nat
  | [], _, _ => none
  | t :: W, x, k => if x = t then some k else kx W x (k + 1)
def sg (s : List Int32) : Nat → Nat → Nat → List (Nat × Nat)
  | 0, _, _ => []
  | d + 1, i, b => if s.getD i 0 = 32 then (b, i) :: sg s d (i + 1) (i + 1) else sg s d (i + 1) b
theorem tw_kx {s : List Int32} {u : Nat → Nat} {x : List Nat} : ∀ (d i a b : Nat) (r : Option Nat), tw s (fun a b => x = rl u a (b - a)) d i a b r ↔ r = kx ((sg s d i b).map (fun q => rl u q.1 (q.2 - q.1))) x a
  | 0, i, a, b, r => Iff.rfl
  | d + 1, i, a, b, r => by
    rw [tw, sg]
    by_cases c : s.getD i 0 = 32
    · rw [if_pos c, if_pos c, List.map_cons, kx, tw_kx d (i + 1) (a + 1) (i + 1) r]
      by_cases e : x = rl u b (i - b)
      · rw [if_pos e]
        constructor
        · rintro (⟨-, h⟩ | ⟨h, -⟩)
          · exact h
          · exact absurd e h
        · intro h; exact Or.inl ⟨e, h⟩
      · rw [if_neg e]
        constructor
        · rintro (⟨h, -⟩ | ⟨-, h⟩)
          · exact absurd h e
          · exact h
        · intro h; exact Or.inr ⟨e, h⟩
    · rw [if_neg c, if_neg c]
      exact tw_kx d (i + 1) a b r
def W3 : List (List Nat) := [[103, 110, 105, 108, 101, 101, 102], [104, 115, 97, 108, 99], [101, 103, 97, 116, 115], [115, 114, 97, 101, 98]]
theorem W3_eq : (sg (m_str 3) 26 0 0).map (fun q => rl (chr_u 3) q.1 (q.2 - q.1)) = W3 := by decide +kernel
def W4 : List (List Nat) := [[108, 108, 117, 112], [121, 100, 97, 101, 116, 115], [116, 104, 103, 105, 116], [100, 101, 114, 105, 116], [101, 99, 97, 108, 112], [101, 103, 97, 116, 115], [109, 97, 101, 116], [121, 97, 100], [116, 115, 97, 101, 108], [116, 115, 111, 109]]
theorem W4_eq : (sg (m_str 4) 56 0 0).map (fun q => rl (chr_u 4) q.1 (q.2 - q.1)) = W4 := by decide +kernel
def W5 : List (List Nat) := [[116, 117, 112], [116, 117, 111], [119, 97, 114, 100], [101, 118, 105, 114, 100], [101, 109, 111, 104], [116, 115, 101, 114], [110, 105, 97, 103, 97]]
theorem W5_eq : (sg (m_str 5) 35 0 0).map (fun q => rl (chr_u 5) q.1 (q.2 - q.1)) = W5 := by decide +kernel
def er : List Nat → Nat
  | [] => 0
  | c :: cs => 27 * er cs + (c - 96)
def lett (l : List Nat) : Prop := ∀ c, c ∈ l → 97 ≤ c ∧ c ≤ 122
theorem er_inj : ∀ (l m : List Nat), lett l → lett m → er l = er m → l = m
  | [], [], _, _, _ => rfl
  | [], c :: cs, _, hm, h => by
    have := hm c (List.mem_cons_self)
    rw [er, er] at h; omega
  | c :: cs, [], hl, _, h => by
    have := hl c (List.mem_cons_self)
    rw [er, er] at h; omega
  | c :: cs, d :: ds, hl, hm, h => by
    have h1 := hl c (List.mem_cons_self)
    have h2 := hm d (List.mem_cons_self)
    rw [er, er] at h
    have hc : c = d := by omega
    have he : er cs = er ds := by omega
    rw [hc, er_inj cs ds (fun x hx => hl x (List.mem_cons_of_mem _ hx)) (fun x hx => hm x (List.mem_cons_of_mem _ hx)) he]
theorem er_lt : ∀ (l : List Nat), lett l → er l < 27 ^ l.length
  | [], _ => by decide
  | c :: cs, h => by
    have h1 := h c (List.mem_cons_self)
    have h2 := er_lt cs (fun x hx => h x (List.mem_cons_of_mem _ hx))
    rw [er, List.length_cons, Nat.pow_succ]
    omega
theorem rl_lett {w : Nat → Nat} {p : Nat} : ∀ n, (∀ i, i < n → 97 ≤ w (p + i) ∧ w (p + i) ≤ 122) → lett (rl w p n)
  | 0, _ => fun c hc => by cases hc
  | n + 1, h => fun c hc => by
    rw [rl] at hc
    rcases List.mem_cons.mp hc with rfl | hc
    · exact h n (by omega)
    · exact rl_lett n (fun i hi => h i (by omega)) c hc
theorem er_rl {w : Nat → Nat} {p n : Nat} (hn : n ≤ 6) (h : ∀ i, i < n → 97 ≤ w (p + i) ∧ w (p + i) ≤ 122) : er (rl w p n) < 387420489 := by
  have := er_lt _ (rl_lett n h)
  rw [rl_len] at this
  exact Nat.lt_of_lt_of_le this (Nat.pow_le_pow_right (n := 27) (by omega) hn)
def mB (I : II) (N : Nat) (w : Nat → Nat) : Prop := N ≤ 600 ∧ I 46 1 = 0 ∧ I 46 2 = nI N ∧ ∀ j, j < N → w j < 256 ∧ I 47 j = nI (w j)
def tM (I : II) (N : Nat) (w : Nat → Nat) (p : Nat) : Prop := mB I N w ∧ p ≤ N ∧ I 46 4 = nI p ∧ I 46 5 = 0 ∧ I 46 6 = -1
def fM (I : II) (N : Nat) (w : Nat → Nat) (k q : Nat) : Prop := mB I N w ∧ I 46 5 = nI k ∧ (1 ≤ k ∧ k ≤ 3) ∧ I 46 6 = nI q ∧ ∃ p, p ≤ N ∧ I 46 4 = nI p
/-- what the reference's reader writes -/
def fm (I J : II) : Prop := FR [46] I J ∧ ∀ j, j ≠ 4 → j ≠ 5 → j ≠ 6 → J 46 j = I 46 j
theorem fm.refl (I : II) : fm I I := ⟨FR.refl _ _, fun _ _ _ _ => rfl⟩
theorem fm.trans {I J K : II} (h : fm I J) (k : fm J K) : fm I K := ⟨h.1.trans k.1, fun j a b c => (k.2 j a b c).trans (h.2 j a b c)⟩
theorem fm_4 (I : II) (v : Int32) : fm I (m_up I 46 4 v) := ⟨FR.up (by decide) _ _, fun j a _ _ => by rw [m_up_at, if_neg a]⟩
theorem fm_56 (I : II) (a b : Int32) : fm I (m_up (m_up I 46 5 a) 46 6 b) := ⟨(FR.up (by decide) _ _).trans (FR.up (by decide) _ _), fun j _ h5 h6 => by rw [m_up_at, if_neg h6, m_up_at, if_neg h5]⟩
section MREAD
variable {E : MEnv} {I : II} {T : TT} {Q : QQ} {N : Nat} {w : Nat → Nat}
theorem mB_4 (h : mB I N w) (v : Int32) : mB (m_up I 46 4 v) N w := h
theorem tM_at {p : Nat} (h : tM I N w p) {p' : Nat} (hp : p' ≤ N) : tM (m_up I 46 4 (nI p')) N w p' := ⟨h.1, hp, rfl, h.2.2.2.1, h.2.2.2.2⟩
theorem fM_ne {k q : Nat} (h : fM I N w k q) : I 46 5 ≠ 0 := by
  obtain ⟨-, a, b, -⟩ := h
  rw [a]; exact nI_ne0 (by omega) (by omega)
theorem qn_byteAt {p : Nat} (hB : mB I N w) (hp : p ≤ 1000) (hq : Q (.inl (some (.int (cv N w p)))) I T) : ev E 61 0 [some (.ref 46), some (.int (nI p))] [] I T Q := by
  obtain ⟨n6, b1, b2, b3⟩ := hB
  refine s_M_byteAt_0 ?_
  unfold t_M_byteAt_0 t_M_byteAt_10
  rw [b2]
  unfold cv at hq
  by_cases c : p < N
  · rw [if_pos c] at hq
    refine bq_t (nI_lt c (by omega)) ⟨gix (by omega) (by omega), ?_⟩
    rw [nI_clamp (by omega), (b3 p c).2]
    exact hq
  · rw [if_neg c] at hq
    exact bq_f (nI_nlt (by omega) (by omega)) hq
theorem qn_isDigit {p : Nat} (hw : p < N → w p < 256) (h1 : isD N w p → Q (.inl (some (.int 1))) I T) (h0 : ¬ isD N w p → Q (.inl (some (.int 0))) I T) : ev E 72 0 [some (.int (cv N w p))] [] I T Q := by
  refine s_M_isDigit_0 ?_
  unfold t_M_isDigit_0 t_M_isDigit_8 t_M_isDigit_9
  unfold isD at h1 h0
  unfold cv
  by_cases c : p < N
  · rw [if_pos c]
    have := hw c
    by_cases c1 : w p < 48
    · exact bq_t (nI_lt (a := w p) (b := 48) c1 (by omega)) ⟨Or.inl rfl, h0 (fun z => by omega)⟩
    · refine bq_f (nI_nlt (a := w p) (b := 48) (by omega) (by omega)) ?_
      by_cases c2 : 57 < w p
      · exact bq_t (nI_lt (a := 57) (b := w p) c2 (by omega)) ⟨Or.inl rfl, h0 (fun z => by omega)⟩
      · exact bq_f (nI_nlt (a := 57) (b := w p) (by omega) (by omega)) ⟨Or.inr rfl, h1 ⟨c, by omega, by omega⟩⟩
  · rw [if_neg c]
    exact bq_t (by decide) ⟨Or.inl rfl, h0 (fun z => c z.1)⟩
theorem qn_isSmall {p : Nat} (hw : p < N → w p < 256) (h1 : isL N w p → Q (.inl (some (.int 1))) I T) (h0 : ¬ isL N w p → Q (.inl (some (.int 0))) I T) : ev E 66 0 [some (.int (cv N w p))] [] I T Q := by
  refine s_M_isSmall_0 ?_
  unfold t_M_isSmall_0 t_M_isSmall_8 t_M_isSmall_9
  unfold isL at h1 h0
  unfold cv
  by_cases c : p < N
  · rw [if_pos c]
    have := hw c
    by_cases c1 : w p < 97
    · exact bq_t (nI_lt (a := w p) (b := 97) c1 (by omega)) ⟨Or.inl rfl, h0 (fun z => by omega)⟩
    · refine bq_f (nI_nlt (a := w p) (b := 97) (by omega) (by omega)) ?_
      by_cases c2 : 122 < w p
      · exact bq_t (nI_lt (a := 122) (b := w p) c2 (by omega)) ⟨Or.inl rfl, h0 (fun z => by omega)⟩
      · exact bq_f (nI_nlt (a := 122) (b := w p) (by omega) (by omega)) ⟨Or.inr rfl, h1 ⟨c, by omega, by omega⟩⟩
  · rw [if_neg c]
    exact bq_t (by decide) ⟨Or.inl rfl, h0 (fun z => c z.1)⟩
theorem l_blanks (hB : mB I N w) : ∀ (d p : Nat), p + d = N → Q (.inl none) (m_up I 46 4 (nI (bl N w p))) T → ev E 60 0 [some (.ref 46)] [] (m_up I 46 4 (nI p)) T Q
  | 0, p, hp, hq => by
    have n6 := hB.1
    have e : p = N := by omega
    subst e
    refine s_M_blanks_0 ?_
    unfold t_M_blanks_0
    show ev E 61 0 [some (.ref 46), some (.int (nI p))] [] _ T _
    refine qn_byteAt (mB_4 hB _) (by omega) ?_
    rw [bl_end] at hq
    have e2 : cv p w p = -1 := if_neg (by omega)
    rw [e2]
    exact bq_f (by decide) hq
  | d + 1, p, hp, hq => by
    have n6 := hB.1
    have hw := (hB.2.2.2 p (by omega)).1
    refine s_M_blanks_0 ?_
    unfold t_M_blanks_0
    show ev E 61 0 [some (.ref 46), some (.int (nI p))] [] _ T _
    refine qn_byteAt (mB_4 hB _) (by omega) ?_
    rw [bl_S (by omega)] at hq
    have e2 : cv N w p = nI (w p) := if_pos (by omega)
    rw [e2]
    refine ⟨fun c => ?_, fun c => ?_⟩
    · have c2 : w p = 32 := (nI_eq (a := w p) (b := 32) (by omega) (by omega)).mp c
      rw [if_pos c2] at hq
      show ev E 60 0 [some (.ref 46)] [] (m_up (m_up I 46 4 (nI p)) 46 4 (nI p + 1)) T Q
      rw [up_up, nI_1]
      exact l_blanks hB d (p + 1) (by omega) hq
    · rw [if_neg (fun z => c (by rw [z]; rfl))] at hq
      exact hq
theorem qn_blanks {p : Nat} (hB : mB I N w) (hp : p ≤ N) (h4 : I 46 4 = nI p) (hq : Q (.inl none) (m_up I 46 4 (nI (bl N w p))) T) : ev E 60 0 [some (.ref 46)] [] I T Q := by
  have := l_blanks (E := E) (Q := Q) (T := T) hB (N - p) p (by omega) hq
  rw [up_same h4] at this
  exact this
theorem qn_wrong_t {p k q : Nat} (h : tM I N w p) (hk : 1 ≤ k ∧ k ≤ 3) (hq : ∀ J, fm I J → fM J N w k q → Q (.inl none) J T) : ev E 69 0 [some (.ref 46), some (.int (nI k)), some (.int (nI q))] [] I T Q := by
  refine s_M_wrong_0 ?_
  unfold t_M_wrong_0 t_M_wrong_9
  exact bq_t h.2.2.2.1 (hq _ (fm_56 I _ _) ⟨h.1, rfl, hk, rfl, p, h.2.1, h.2.2.1⟩)
theorem qn_wrong_f {k q : Nat} (h : fM I N w k q) (a b : Int32) (hq : Q (.inl none) I T) : ev E 69 0 [some (.ref 46), some (.int a), some (.int b)] [] I T Q := by
  refine s_M_wrong_0 ?_
  unfold t_M_wrong_0 t_M_wrong_9
  exact bq_f (fM_ne h) hq
theorem qn_sign_t {p c : Nat} (hc : c < 256) (h : tM I N w p) (h1 : ∀ p', sgnR N w p c = .inr ((), p') → ∀ J, fm I J → tM J N w p' → Q (.inl none) J T) (h0 : ∀ k q, sgnR N w p c = .inl (k, q) → ∀ J, fm I J → fM J N w k q → Q (.inl none) J T) : ev E 74 0 [some (.ref 46), some (.int (nI c))] [] I T Q := by
  have h9 := h
  obtain ⟨hB, hp, h4, h5, h6⟩ := h
  have hb := bl_le (w := w) hp
  have n6 := hB.1
  refine s_M_sign_0 ?_
  unfold t_M_sign_0 t_M_sign_24
  refine bq_t h5 ?_
  refine qn_blanks hB hp h4 ?_
  show ev E 61 0 [some (.ref 46), some (.int (nI (bl N w p)))] [] _ T _
  refine qn_byteAt (mB_4 hB _) (by omega) ?_
  have hv := cv_eq (N := N) (w := w) (p := bl N w p) hc (fun z => (hB.2.2.2 _ z).1)
  have ht := tM_at h9 hb.2
  refine ⟨fun c1 => ?_, fun c1 => ?_⟩
  · have c2 := hv.mp c1
    show Q (.inl none) (m_up (m_up I 46 4 (nI (bl N w p))) 46 4 (nI (bl N w p) + 1)) T
    rw [up_up, nI_1]
    exact h1 _ (sgnR_t c2) _ (fm_4 I _) (tM_at h9 (by omega))
  · refine qn_wrong_t (k := 1) (q := bl N w p) ht (by omega) (fun J hJ fJ => ?_)
    exact h0 _ _ (sgnR_f (fun z => c1 (hv.mpr z))) J ((fm_4 I _).trans hJ) fJ
theorem qn_sign_f {k q : Nat} (c : Int32) (h : fM I N w k q) (hq : Q (.inl none) I T) : ev E 74 0 [some (.ref 46), some (.int c)] [] I T Q := by
  refine s_M_sign_0 ?_
  unfold t_M_sign_0
  exact bq_f (fM_ne h) hq
/-- a sign is taken, or not -/
theorem qn_takes_t {p c : Nat} (hc : c < 256) (h : tM I N w p) (h1 : bl N w p < N ∧ w (bl N w p) = c → Q (.inl (some (.int 1))) (m_up I 46 4 (nI (bl N w p + 1))) T) (h0 : ¬ (bl N w p < N ∧ w (bl N w p) = c) → Q (.inl (some (.int 0))) (m_up I 46 4 (nI (bl N w p))) T) : ev E 93 0 [some (.ref 46), some (.int (nI c)), none] [] I T Q := by
  obtain ⟨hB, hp, h4, h5, h6⟩ := h
  have hb := bl_le (w := w) hp
  have n6 := hB.1
  refine s_M_takesSign_0 ?_
  unfold t_M_takesSign_0 t_M_takesSign_16 t_M_takesSign_25
  refine bq_t h5 ?_
  refine qn_blanks hB hp h4 ?_
  show ev E 61 0 [some (.ref 46), some (.int (nI (bl N w p)))] [] _ T _
  refine qn_byteAt (mB_4 hB _) (by omega) ?_
  have hv := cv_eq (N := N) (w := w) (p := bl N w p) hc (fun z => (hB.2.2.2 _ z).1)
  refine ⟨fun c1 => bq_f (by decide) ⟨Or.inr rfl, ?_⟩, fun c1 => bq_t rfl ⟨Or.inl rfl, h0 (fun z => c1 (hv.mpr z))⟩⟩
  show Q (.inl (some (.int 1))) (m_up (m_up I 46 4 (nI (bl N w p))) 46 4 (nI (bl N w p) + 1)) T
  rw [up_up, nI_1]
  exact h1 (hv.mp c1)
theorem ehi {a hi : Nat} (ha : a < 2 ^ 30) (hh : hi ≤ 1000) : (nI hi - 1 < nI a) ↔ hi ≤ a := by
  rw [fa_lt, nI_toInt (by omega)]
  have := pk_sub_toInt (a := hi) (b := 1) (by omega) (by omega)
  have e : (nI hi - nI 1).toInt = (nI hi - 1 : Int32).toInt := rfl
  rw [← e, this]
  omega
theorem l_mnum {lo hi : Int32} {b : Int32} (hB : mB I N w) : ∀ (d p v : Nat), p + d = N → v ≤ 100000 → ev E 57 0 [some (.int (nI (dgs 100000 w d p v).2)), some (.int lo), some (.int hi)] [] (m_up I 46 4 (nI (dgs 100000 w d p v).1)) T (KI (fun v3 I3 T3 => (v3 = 0 → (ev E 69 0 [some (.ref 46), some (.int 2), some (.int b)] [] I3 T3 (KV (fun I4 T4 => t_M_number_63 E I4 T4 Q (nI (dgs 100000 w d p v).2)) (fun x I1 T1 => Q (.inr x) I1 T1)))) ∧ (¬ (v3 = 0) → (t_M_number_63 E I3 T3 Q (nI (dgs 100000 w d p v).2)))) (fun _ _ _ => False)) → t_M_number_23 E (m_up I 46 4 (nI p)) T Q lo hi b (nI v)
  | 0, p, v, hp, hv, hq => by
    have n6 := hB.1
    unfold t_M_number_23
    show ev E 61 0 [some (.ref 46), some (.int (nI p))] [] _ T _
    refine qn_byteAt (mB_4 hB _) (by omega) ?_
    refine qn_isDigit (fun z => (hB.2.2.2 _ z).1) (fun c => absurd c.1 (by omega)) (fun c => ?_)
    exact bq_t rfl hq
  | d + 1, p, v, hp, hv, hq => by
    have n6 := hB.1
    unfold t_M_number_23 t_M_number_46
    show ev E 61 0 [some (.ref 46), some (.int (nI p))] [] _ T _
    refine qn_byteAt (mB_4 hB _) (by omega) ?_
    refine qn_isDigit (fun z => (hB.2.2.2 _ z).1) (fun c => ?_) (fun c => ?_)
    · refine bq_f (by decide) ?_
      show ev E 61 0 [some (.ref 46), some (.int (nI p))] [] _ T _
      refine qn_byteAt (mB_4 hB _) (by omega) ?_
      have ec : cv N w p = nI (w p) := if_pos (by omega)
      have hwp := (hB.2.2.2 p (by omega)).1
      rw [dgs, if_pos c.2] at hq
      have e1 : (10 * nI v + nI (w p) - 48 : Int32) = nI (10 * v + (w p - 48)) := by
        have a1 : (10 * nI v : Int32) = nI (10 * v) := pk_mul 10 v
        have a2 : (nI (10 * v + w p) - 48 : Int32) = nI (10 * v + w p - 48) := pk_sub (b := 48) (by have := c.2.1; omega)
        rw [a1, nI_add, a2]
        congr 1
        have := c.2.1
        omega
      have next : ∀ y, y = nI (min (10 * v + (w p - 48)) 100000) → ev E 71 23 [some (.ref 46), some (.int lo), some (.int hi), some (.int b), some (.int y)] [] (m_up (m_up I 46 4 (nI p)) 46 4 (nI p + 1)) T Q := fun y hy => by
        rw [up_up, nI_1, hy]
        exact s_M_number_23 (l_mnum hB d (p + 1) _ (by omega) (Nat.min_le_right _ _) hq)
      rw [ec]
      show (10 * nI v + nI (w p) - 48 ≤ 100000 → _) ∧ (¬ 10 * nI v + nI (w p) - 48 ≤ 100000 → _)
      rw [e1]
      refine ⟨fun y => next _ ?_, fun y => next _ ?_⟩
      · have y2 : 10 * v + (w p - 48) ≤ 100000 := (nI_leI (a := 10 * v + (w p - 48)) (b := 100000) (by omega) (by omega)).mp y
        rw [Nat.min_eq_left y2]
      · have y2 : ¬ 10 * v + (w p - 48) ≤ 100000 := fun z => y (nI_le (a := 10 * v + (w p - 48)) (b := 100000) z (by omega))
        rw [Nat.min_eq_right (by omega)]; rfl
    · refine bq_t rfl ?_
      rw [dgs, if_neg (fun z => c ⟨by omega, z⟩)] at hq
      exact hq
theorem qn_num_t {p lo hi : Nat} (hlo : lo < 1000) (hhi : hi ≤ 1000) (h : tM I N w p) (h1 : ∀ v p', numR N w p lo hi = .inr (v, p') → ∀ J, fm I J → tM J N w p' → Q (.inl (some (.int (nI v)))) J T) (h0 : ∀ k q, numR N w p lo hi = .inl (k, q) → ∀ J, fm I J → fM J N w k q → Q (.inl (some (.int 0))) J T) : ev E 71 0 [some (.ref 46), some (.int (nI lo)), some (.int (nI hi - 1)), none, none] [] I T Q := by
  have h9 := h
  obtain ⟨hB, hp, h4, h5, h6⟩ := h
  have hb := bl_le (w := w) hp
  have n6 := hB.1
  refine s_M_number_0 ?_
  unfold t_M_number_0
  refine bq_t h5 ?_
  refine qn_blanks hB hp h4 ?_
  show ev E 61 0 [some (.ref 46), some (.int (nI (bl N w p)))] [] _ T _
  refine qn_byteAt (mB_4 hB _) (by omega) ?_
  have ht := tM_at h9 hb.2
  refine qn_isDigit (fun z => (hB.2.2.2 _ z).1) (fun c => ?_) (fun c => ?_)
  · refine bq_f (by decide) ?_
    refine l_mnum hB (N - bl N w p) (bl N w p) 0 (by omega) (by omega) ?_
    obtain ⟨r1, r2⟩ := dgs_rel w (N - bl N w p) (bl N w p) 0 0 rfl
    have hv := dgs_v 100000 w (N - bl N w p) (bl N w p) 0 (by omega)
    have hpl := dgs_le 100000 w (N - bl N w p) (bl N w p) 0
    generalize hD : dgs 100000 w (N - bl N w p) (bl N w p) 0 = D at hv hpl r1 r2
    have htD := tM_at h9 (p' := D.1) (by omega)
    refine q_in _ _ _ ?_
    unfold t_M_number_63 t_M_number_69
    by_cases c1 : lo ≤ D.2 ∧ D.2 < hi
    · have ok : okW (nI D.2) (nI lo) (nI hi - 1) := ⟨nI_nlt c1.1 (by omega), fun z => by have := (ehi (by omega) hhi).mp z; omega⟩
      rw [wI_t ok]
      refine bq_f (by decide) (bq_t h5 ?_)
      have e1 : (dgs 10000 w (N - bl N w p) (bl N w p) 0).2 = D.2 := by rw [r2]; omega
      exact h1 _ _ (by rw [numR_ok c (by rw [e1]; exact c1), e1, r1]) _ (fm_4 I _) htD
    · have ok : ¬ okW (nI D.2) (nI lo) (nI hi - 1) := fun z => c1 ⟨by
          have := z.1
          by_cases y : lo ≤ D.2
          · exact y
          · exact absurd (nI_lt (by omega) (by omega)) this, by
          have := z.2
          by_cases y : D.2 < hi
          · exact y
          · exact absurd ((ehi (by omega) hhi).mpr (by omega)) this⟩
      rw [wI_f ok]
      refine bq_t rfl ?_
      refine qn_wrong_t (k := 2) (q := bl N w p) htD (by omega) (fun J hJ fJ => ?_)
      exact bq_f (fM_ne fJ) (h0 2 (bl N w p) (numR_2 c (by rw [r2]; omega)) J ((fm_4 I _).trans hJ) fJ)
  · refine bq_t rfl ?_
    refine s_M_wrong_0 ?_
    unfold t_M_wrong_0 t_M_wrong_9
    refine bq_t h5 ?_
    have hfJ : fM (m_up (m_up (m_up I 46 4 (nI (bl N w p))) 46 5 1) 46 6 (nI (bl N w p))) N w 1 (bl N w p) := ⟨hB, rfl, by omega, rfl, bl N w p, hb.2, rfl⟩
    have hfr : fm I (m_up (m_up (m_up I 46 4 (nI (bl N w p))) 46 5 1) 46 6 (nI (bl N w p))) := (fm_4 I _).trans (fm_56 _ _ _)
    show t_M_number_23 E (m_up (m_up (m_up I 46 4 (nI (bl N w p))) 46 5 1) 46 6 (nI (bl N w p))) T Q (nI lo) (nI hi - 1) (nI (bl N w p)) (nI 0)
    have f4 : (m_up (m_up (m_up I 46 4 (nI (bl N w p))) 46 5 1) 46 6 (nI (bl N w p))) 46 4 = nI (bl N w p) := rfl
    generalize m_up (m_up (m_up I 46 4 (nI (bl N w p))) 46 5 1) 46 6 (nI (bl N w p)) = J at hfJ hfr f4 ⊢
    unfold t_M_number_23
    rw [f4]
    refine qn_byteAt hfJ.1 (by omega) ?_
    refine qn_isDigit (fun z => (hfJ.1.2.2.2 _ z).1) (fun y => absurd y c) (fun _ => ?_)
    refine bq_t rfl ?_
    refine q_in _ _ _ ?_
    unfold t_M_number_63 t_M_number_69
    have fin := h0 1 (bl N w p) (numR_1 c) J hfr hfJ
    rcases wI_01 (nI 0) (nI lo) (nI hi - 1) with e | e
    · rw [e]; exact bq_t rfl (qn_wrong_f hfJ _ _ (bq_f (fM_ne hfJ) fin))
    · rw [e]; exact bq_f (by decide) (bq_f (fM_ne hfJ) fin)
theorem qn_num_f {k q : Nat} (lo hi : Int32) (h : fM I N w k q) (hq : Q (.inl (some (.int 0))) I T) : ev E 71 0 [some (.ref 46), some (.int lo), some (.int hi), none, none] [] I T Q := by
  refine s_M_number_0 ?_
  unfold t_M_number_0
  exact bq_f (fM_ne h) hq
end MREAD
