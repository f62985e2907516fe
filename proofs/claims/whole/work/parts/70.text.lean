/-! ===== texts: what is read, purely; the class's reader ===== -/
/-- behind blanks -/
def skb (w : Nat → Nat) : Nat → Nat → Nat
  | 0, p => p
  | d + 1, p => if w p = 32 then skb w d (p + 1) else p
def bl (N : Nat) (w : Nat → Nat) (p : Nat) : Nat := skb w (N - p) p
theorem skb_le (w : Nat → Nat) : ∀ (d p : Nat), p ≤ skb w d p ∧ skb w d p ≤ p + d
  | 0, p => ⟨Nat.le_refl _, Nat.le_refl _⟩
  | d + 1, p => by
    rw [skb]
    split
    · have := skb_le w d (p + 1); omega
    · omega
theorem bl_le {N : Nat} {w : Nat → Nat} {p : Nat} (h : p ≤ N) : p ≤ bl N w p ∧ bl N w p ≤ N := by
  have := skb_le w (N - p) p
  unfold bl
  omega
theorem bl_S {N : Nat} {w : Nat → Nat} {p : Nat} (h : p < N) : bl N w p = if w p = 32 then bl N w (p + 1) else p := by
  unfold bl
  rw [show N - p = (N - (p + 1)) + 1 by omega, skb]
theorem bl_end {N : Nat} {w : Nat → Nat} : bl N w N = N := by unfold bl; rw [Nat.sub_self]; rfl
theorem bl_fix {N : Nat} {w : Nat → Nat} {p : Nat} (h : p ≤ N) (k : p < N → w p ≠ 32) : bl N w p = p := by
  by_cases c : p < N
  · rw [bl_S c, if_neg (k c)]
  · have : p = N := by omega
    subst this; exact bl_end
theorem bl_no {N : Nat} {w : Nat → Nat} : ∀ (d p : Nat), p + d = N → bl N w p < N → w (bl N w p) ≠ 32
  | 0, p, h, k => by
    have : p = N := by omega
    subst this
    rw [bl_end] at k; omega
  | d + 1, p, h, k => by
    rw [bl_S (by omega)] at k ⊢
    by_cases c : w p = 32
    · rw [if_pos c] at k ⊢; exact bl_no d (p + 1) (by omega) k
    · rw [if_neg c]; exact c
theorem bl_bl {N : Nat} {w : Nat → Nat} {p : Nat} (h : p ≤ N) : bl N w (bl N w p) = bl N w p := bl_fix (bl_le h).2 (fun k => bl_no (N - p) p (by omega) k)
/-- the sign at a place -/
def cv (N : Nat) (w : Nat → Nat) (p : Nat) : Int32 := if p < N then nI (w p) else -1
def isD (N : Nat) (w : Nat → Nat) (p : Nat) : Prop := p < N ∧ 48 ≤ w p ∧ w p ≤ 57
def isL (N : Nat) (w : Nat → Nat) (p : Nat) : Prop := p < N ∧ 97 ≤ w p ∧ w p ≤ 122
/-- a number's signs: where it ends, its worth, bounded -/
def dgs (c : Nat) (w : Nat → Nat) : Nat → Nat → Nat → Nat × Nat
  | 0, p, v => (p, v)
  | d + 1, p, v => if 48 ≤ w p ∧ w p ≤ 57 then dgs c w d (p + 1) (min (10 * v + (w p - 48)) c) else (p, v)
theorem dgs_le (c : Nat) (w : Nat → Nat) : ∀ (d p v : Nat), p ≤ (dgs c w d p v).1 ∧ (dgs c w d p v).1 ≤ p + d
  | 0, p, v => ⟨Nat.le_refl _, Nat.le_refl _⟩
  | d + 1, p, v => by
    rw [dgs]
    split
    · have := dgs_le c w d (p + 1) (min (10 * v + (w p - 48)) c); omega
    · exact ⟨Nat.le_refl _, by omega⟩
theorem dgs_v (c : Nat) (w : Nat → Nat) : ∀ (d p v : Nat), v ≤ c → (dgs c w d p v).2 ≤ c
  | 0, p, v, h => h
  | d + 1, p, v, h => by
    rw [dgs]
    split
    · exact dgs_v c w d (p + 1) _ (Nat.min_le_right _ _)
    · exact h
theorem dgs_rel (w : Nat → Nat) : ∀ (d p u v : Nat), v = min u 10000 → (dgs 10000 w d p v).1 = (dgs 100000 w d p u).1 ∧ (dgs 10000 w d p v).2 = min (dgs 100000 w d p u).2 10000
  | 0, p, u, v, h => ⟨rfl, h⟩
  | d + 1, p, u, v, h => by
    rw [dgs, dgs]
    by_cases c : 48 ≤ w p ∧ w p ≤ 57
    · rw [if_pos c, if_pos c]
      exact dgs_rel w d (p + 1) _ _ (by omega)
    · rw [if_neg c, if_neg c]; exact ⟨rfl, h⟩
abbrev RS (α : Type) : Type := Sum (Nat × Nat) (α × Nat)
noncomputable def numR (N : Nat) (w : Nat → Nat) (p lo hi : Nat) : RS Nat := by
  classical exact if isD N w (bl N w p) then (if lo ≤ (dgs 10000 w (N - bl N w p) (bl N w p) 0).2 ∧ (dgs 10000 w (N - bl N w p) (bl N w p) 0).2 < hi then .inr ((dgs 10000 w (N - bl N w p) (bl N w p) 0).2, (dgs 10000 w (N - bl N w p) (bl N w p) 0).1) else .inl (2, bl N w p)) else .inl (1, bl N w p)
theorem numR_1 {N : Nat} {w : Nat → Nat} {p lo hi : Nat} (h : ¬ isD N w (bl N w p)) : numR N w p lo hi = .inl (1, bl N w p) := by unfold numR; rw [if_neg h]
theorem numR_2 {N : Nat} {w : Nat → Nat} {p lo hi : Nat} (h : isD N w (bl N w p)) (k : ¬ (lo ≤ (dgs 10000 w (N - bl N w p) (bl N w p) 0).2 ∧ (dgs 10000 w (N - bl N w p) (bl N w p) 0).2 < hi)) : numR N w p lo hi = .inl (2, bl N w p) := by unfold numR; rw [if_pos h, if_neg k]
theorem numR_ok {N : Nat} {w : Nat → Nat} {p lo hi : Nat} (h : isD N w (bl N w p)) (k : lo ≤ (dgs 10000 w (N - bl N w p) (bl N w p) 0).2 ∧ (dgs 10000 w (N - bl N w p) (bl N w p) 0).2 < hi) : numR N w p lo hi = .inr ((dgs 10000 w (N - bl N w p) (bl N w p) 0).2, (dgs 10000 w (N - bl N w p) (bl N w p) 0).1) := by unfold numR; rw [if_pos h, if_pos k]
noncomputable def sgnR (N : Nat) (w : Nat → Nat) (p c : Nat) : RS Unit := by
  classical exact if bl N w p < N ∧ w (bl N w p) = c then .inr ((), bl N w p + 1) else .inl (1, bl N w p)
theorem sgnR_t {N : Nat} {w : Nat → Nat} {p c : Nat} (h : bl N w p < N ∧ w (bl N w p) = c) : sgnR N w p c = .inr ((), bl N w p + 1) := by unfold sgnR; rw [if_pos h]
theorem sgnR_f {N : Nat} {w : Nat → Nat} {p c : Nat} (h : ¬ (bl N w p < N ∧ w (bl N w p) = c)) : sgnR N w p c = .inl (1, bl N w p) := by unfold sgnR; rw [if_neg h]
/-- letters -/
def lts (w : Nat → Nat) : Nat → Nat → Nat
  | 0, p => p
  | d + 1, p => if 97 ≤ w p ∧ w p ≤ 122 then lts w d (p + 1) else p
def le (N : Nat) (w : Nat → Nat) (p : Nat) : Nat := lts w (N - p) p
theorem lts_le (w : Nat → Nat) : ∀ (d p : Nat), p ≤ lts w d p ∧ lts w d p ≤ p + d
  | 0, p => ⟨Nat.le_refl _, Nat.le_refl _⟩
  | d + 1, p => by
    rw [lts]
    split
    · have := lts_le w d (p + 1); omega
    · omega
theorem le_le {N : Nat} {w : Nat → Nat} {p : Nat} (h : p ≤ N) : p ≤ le N w p ∧ le N w p ≤ N := by
  have := lts_le w (N - p) p
  unfold le
  omega
theorem le_S {N : Nat} {w : Nat → Nat} {p : Nat} (h : p < N) : le N w p = if 97 ≤ w p ∧ w p ≤ 122 then le N w (p + 1) else p := by
  unfold le
  rw [show N - p = (N - (p + 1)) + 1 by omega, lts]
theorem le_end {N : Nat} {w : Nat → Nat} : le N w N = N := by unfold le; rw [Nat.sub_self]; rfl
theorem le_in {N : Nat} {w : Nat → Nat} : ∀ (d p : Nat), p + d = N → ∀ q, p ≤ q → q < le N w p → 97 ≤ w q ∧ w q ≤ 122
  | 0, p, h, q, h1, h2 => by
    have : p = N := by omega
    subst this
    rw [le_end] at h2; omega
  | d + 1, p, h, q, h1, h2 => by
    rw [le_S (by omega)] at h2
    by_cases c : 97 ≤ w p ∧ w p ≤ 122
    · rw [if_pos c] at h2
      by_cases e : q = p
      · subst e; exact c
      · exact le_in d (p + 1) (by omega) q (by omega) h2
    · rw [if_neg c] at h2; omega
theorem le_no {N : Nat} {w : Nat → Nat} : ∀ (d p : Nat), p + d = N → ¬ isL N w (le N w p)
  | 0, p, h => by
    have : p = N := by omega
    subst this
    rw [le_end]
    exact fun z => by have := z.1; omega
  | d + 1, p, h => by
    rw [le_S (by omega)]
    by_cases c : 97 ≤ w p ∧ w p ≤ 122
    · rw [if_pos c]; exact le_no d (p + 1) (by omega)
    · rw [if_neg c]; exact fun z => c z.2
/-- a word, its last letter first -/
def rl (w : Nat → Nat) (p : Nat) : Nat → List Nat
  | 0 => []
  | n + 1 => w (p + n) :: rl w p n
theorem rl_len (w : Nat → Nat) (p : Nat) : ∀ n, (rl w p n).length = n
  | 0 => rfl
  | n + 1 => by rw [rl, List.length_cons, rl_len w p n]
theorem rl_eq {w u : Nat → Nat} {p a : Nat} : ∀ n m, rl w p n = rl u a m ↔ n = m ∧ ∀ i, i < n → w (p + i) = u (a + i)
  | 0, 0 => ⟨fun _ => ⟨rfl, fun i hi => absurd hi (Nat.not_lt_zero i)⟩, fun _ => rfl⟩
  | 0, m + 1 => ⟨fun h => (by cases h), fun h => by omega⟩
  | n + 1, 0 => ⟨fun h => (by cases h), fun h => by omega⟩
  | n + 1, m + 1 => by
    rw [rl, rl, List.cons.injEq, rl_eq n m]
    constructor
    · rintro ⟨h1, rfl, h2⟩
      refine ⟨rfl, fun i hi => ?_⟩
      by_cases e : i = n
      · subst e; exact h1
      · exact h2 i (by omega)
    · rintro ⟨h1, h2⟩
      have : n = m := by omega
      subst this
      exact ⟨h2 n (by omega), rfl, fun i hi => h2 i (by omega)⟩
/-- the word that stands here -/
def wd (N : Nat) (w : Nat → Nat) (p : Nat) : List Nat := rl w (bl N w p) (le N w (bl N w p) - bl N w p)
/-! the class's reader -/
theorem b255 : ∀ b : Fin 256, ((nI b.val).toInt8.toInt32 &&& 255) = nI b.val ∧ ((nI b.val).toInt8.toInt32 = 32 ↔ b.val = 32) := by decide +kernel
theorem up_up (I : II) (c j : Nat) (a b : Int32) : m_up (m_up I c j a) c j b = m_up I c j b := by
  funext c' j'
  unfold m_up
  by_cases e : c' = c
  · simp only [if_pos e]
    by_cases e2 : j' = j
    · simp only [if_pos e2]
    · simp only [if_neg e2, if_true]
  · simp only [if_neg e]
def cB (I : II) (N : Nat) (w : Nat → Nat) : Prop := N ≤ 600 ∧ I 1 1 = 0 ∧ I 1 2 = nI N ∧ ∀ j, j < N → w j < 256 ∧ I 2 j = (nI (w j)).toInt8.toInt32
def tC (I : II) (N : Nat) (w : Nat → Nat) (p : Nat) : Prop := cB I N w ∧ p ≤ N ∧ I 1 3 = nI p ∧ I 1 5 = 0 ∧ I 1 6 = -1
def fC (I : II) (N : Nat) (w : Nat → Nat) (k q : Nat) : Prop := cB I N w ∧ (∃ p, p ≤ N ∧ I 1 3 = nI p) ∧ I 1 5 = nI k ∧ (1 ≤ k ∧ k ≤ 3) ∧ I 1 6 = nI q
section TEXT
variable {E : MEnv} {I : II} {T : TT} {Q : QQ} {N : Nat} {w : Nat → Nat}
theorem cB_3 (h : cB I N w) (v : Int32) : cB (m_up I 1 3 v) N w := h
theorem cB_4 (h : cB I N w) (v : Int32) : cB (m_up I 1 4 v) N w := h
theorem fC_ne {k q : Nat} (h : fC I N w k q) : I 1 5 ≠ 0 := by
  obtain ⟨-, -, a, b, -⟩ := h
  rw [a]; exact nI_ne0 (by omega) (by omega)
theorem q_peek (hB : cB I N w) : ∀ (d p : Nat), p + d = N → Q (.inl (some (.int (cv N w (bl N w p))))) (m_up I 1 3 (nI (bl N w p))) T → ev E 32 0 [some (.ref 1)] [] (m_up I 1 3 (nI p)) T Q
  | 0, p, hp, hq => by
    obtain ⟨n6, b1, b2, b3⟩ := hB
    have e : p = N := by omega
    subst e
    refine s_Text_peek_0 ?_
    unfold t_Text_peek_0 t_Text_peek_25 t_Text_peek_44 t_Text_peek_45
    have k2 : (m_up I 1 3 (nI p)) 1 2 = nI p := b2
    have k3 : (m_up I 1 3 (nI p)) 1 3 = nI p := rfl
    rw [k2, k3]
    have h1 : nI p ≤ nI p := nI_le (Nat.le_refl _) (by omega)
    rw [bl_end] at hq
    have e2 : cv p w p = -1 := if_neg (by omega)
    rw [e2] at hq
    exact bq_t h1 (bq_t h1 hq)
  | d + 1, p, hp, hq => by
    have hB2 := hB
    obtain ⟨n6, b1, b2, b3⟩ := hB
    obtain ⟨c1, c2⟩ := b3 p (by omega)
    obtain ⟨d1, d2⟩ := b255 ⟨w p, c1⟩
    simp only at d1 d2
    refine s_Text_peek_0 ?_
    unfold t_Text_peek_0 t_Text_peek_25 t_Text_peek_44 t_Text_peek_45
    have k2 : (m_up I 1 3 (nI p)) 1 2 = nI N := b2
    have k3 : (m_up I 1 3 (nI p)) 1 3 = nI p := rfl
    have k4 : (m_up I 1 3 (nI p)) 2 p = (nI (w p)).toInt8.toInt32 := c2
    rw [k2, k3, nI_clamp (by omega), k4, d1, up_up, nI_1]
    have h1 : ¬ nI N ≤ nI p := nI_ge (by omega) (by omega)
    have h2 : ¬ (600 : Int32) ≤ nI p := nI_ge (a := p) (b := 600) (by omega) (by omega)
    have g : ¬ nI p < 0 ∧ p < 600 := ⟨nI_pos (by omega), by omega⟩
    rw [bl_S (by omega)] at hq
    refine bq_f h1 (bq_f h2 ⟨g, fun c => ?_, fun c => ?_⟩)
    · rw [if_pos (d2.mp c)] at hq
      exact q_peek hB2 d (p + 1) (by omega) hq
    · rw [if_neg (fun z => c (d2.mpr z))] at hq
      have e2 : cv N w p = nI (w p) := if_pos (by omega)
      rw [e2] at hq
      exact bq_f h1 (bq_f h2 ⟨g, hq⟩)
theorem q_peekP (hB : cB I N w) {p : Nat} (hp : p ≤ N) (h3 : I 1 3 = nI p) (hq : Q (.inl (some (.int (cv N w (bl N w p))))) (m_up I 1 3 (nI (bl N w p))) T) : ev E 32 0 [some (.ref 1)] [] I T Q := by
  have := q_peek (E := E) (Q := Q) (T := T) hB (N - p) p (by omega) hq
  rw [up_same h3] at this
  exact this
theorem tC_at {p : Nat} (h : tC I N w p) {p' : Nat} (hp : p' ≤ N) : tC (m_up I 1 3 (nI p')) N w p' := ⟨h.1, hp, rfl, h.2.2.2.1, h.2.2.2.2⟩
theorem fC_at {k q : Nat} (h : fC I N w k q) {p' : Nat} (hp : p' ≤ N) : fC (m_up I 1 3 (nI p')) N w k q := ⟨h.1, ⟨p', hp, rfl⟩, h.2.2.1, h.2.2.2.1, h.2.2.2.2⟩
theorem tC_fail {p k q : Nat} (h : tC I N w p) (hk : 1 ≤ k ∧ k ≤ 3) : fC (m_up (m_up I 1 5 (nI k)) 1 6 (nI q)) N w k q := ⟨h.1, ⟨p, h.2.1, h.2.2.1⟩, rfl, hk, rfl⟩
theorem q_fail_t {p k q : Nat} (h : tC I N w p) (hk : 1 ≤ k ∧ k ≤ 3) (hq : ∀ J, FR [1] I J → fC J N w k q → Q (.inl none) J T) : ev E 45 0 [some (.ref 1), some (.int (nI k)), some (.int (nI q))] [] I T Q := by
  refine s_Text_fail_0 ?_
  unfold t_Text_fail_0 t_Text_fail_9
  exact bq_t h.2.2.2.1 (hq _ ((FR.up (by decide) _ _).trans (FR.up (by decide) _ _)) (tC_fail h hk))
theorem q_fail_f {k q : Nat} (h : fC I N w k q) (a b : Int32) (hq : Q (.inl none) I T) : ev E 45 0 [some (.ref 1), some (.int a), some (.int b)] [] I T Q := by
  refine s_Text_fail_0 ?_
  unfold t_Text_fail_0 t_Text_fail_9
  exact bq_f (fC_ne h) hq
theorem q_isFine_t {p : Nat} (h : tC I N w p) (hq : Q (.inl (some (.int 1))) I T) : ev E 31 0 [some (.ref 1)] [] I T Q := by
  refine s_Text_isFine_0 ?_
  unfold t_Text_isFine_0 t_Text_isFine_6
  exact bq_t h.2.2.2.1 ⟨Or.inr rfl, hq⟩
theorem q_isFine_f {k q : Nat} (h : fC I N w k q) (hq : Q (.inl (some (.int 0))) I T) : ev E 31 0 [some (.ref 1)] [] I T Q := by
  refine s_Text_isFine_0 ?_
  unfold t_Text_isFine_0 t_Text_isFine_6
  exact bq_f (fC_ne h) ⟨Or.inl rfl, hq⟩
theorem cv_eq {p c : Nat} (hc : c < 256) (hw : p < N → w p < 256) : cv N w p = nI c ↔ p < N ∧ w p = c := by
  unfold cv
  by_cases h : p < N
  · rw [if_pos h, nI_eq (by have := hw h; omega) (by omega)]
    exact ⟨fun e => ⟨h, e⟩, fun e => e.2⟩
  · rw [if_neg h]
    exact ⟨fun e => absurd e.symm (nI_m1 (by omega)), fun e => absurd e.1 h⟩
theorem q_skip {p : Nat} (hB : cB I N w) (h3 : I 1 3 = nI p) (hp : p < N) (hq : Q (.inl none) (m_up I 1 3 (nI (p + 1))) T) : ev E 52 0 [some (.ref 1)] [] I T Q := by
  refine s_Text_skip_0 ?_
  unfold t_Text_skip_0 t_Text_skip_11
  have h6 := hB.1
  rw [hB.2.2.1, h3, nI_1]
  exact bq_f (nI_ge hp (by omega)) hq
theorem q_sign_t {p c : Nat} (hc : c < 256) (h : tC I N w p) (h1 : ∀ p', sgnR N w p c = .inr ((), p') → ∀ J, FR [1] I J → tC J N w p' → Q (.inl none) J T) (h0 : ∀ k q, sgnR N w p c = .inl (k, q) → ∀ J, FR [1] I J → fC J N w k q → Q (.inl none) J T) : ev E 51 0 [some (.ref 1), some (.int (nI c))] [] I T Q := by
  obtain ⟨hB, hp, h3, h5, h6⟩ := h
  have hb := bl_le (w := w) hp
  refine s_Text_takeSign_0 ?_
  unfold t_Text_takeSign_0 t_Text_takeSign_12
  refine q_peekP hB hp h3 ?_
  have ht : tC (m_up I 1 3 (nI (bl N w p))) N w (bl N w p) := tC_at ⟨hB, hp, h3, h5, h6⟩ hb.2
  have hv := cv_eq (N := N) (w := w) (p := bl N w p) hc (fun z => (hB.2.2.2 _ z).1)
  refine ⟨fun c1 => ?_, fun c1 => ?_⟩
  · have c2 := hv.mp c1
    refine q_skip (p := bl N w p) ht.1 rfl c2.1 ?_
    rw [up_up]
    exact h1 _ (sgnR_t c2) _ (FR.up (by decide) _ _) (tC_at ⟨hB, hp, h3, h5, h6⟩ (by omega))
  · have c2 : ¬ (bl N w p < N ∧ w (bl N w p) = c) := fun z => c1 (hv.mpr z)
    refine q_fail_t (k := 1) (q := bl N w p) ht (by omega) (fun J hJ fJ => ?_)
    exact h0 _ _ (sgnR_f c2) J ((FR.up (by decide) _ _).trans hJ) fJ
theorem q_sign_f {k q : Nat} (c : Int32) (h : fC I N w k q) (hq : ∀ J, FR [1] I J → fC J N w k q → Q (.inl none) J T) : ev E 51 0 [some (.ref 1), some (.int c)] [] I T Q := by
  have h9 := h
  obtain ⟨hB, ⟨p, hp, h3⟩, h5, hk, h6⟩ := h
  have hb := bl_le (w := w) hp
  refine s_Text_takeSign_0 ?_
  unfold t_Text_takeSign_0 t_Text_takeSign_12
  refine q_peekP hB hp h3 ?_
  have hf := fC_at h9 hb.2
  have fr : FR [1] I (m_up I 1 3 (nI (bl N w p))) := FR.up (by decide) _ _
  refine ⟨fun _ => ?_, fun _ => q_fail_f hf _ _ (hq _ fr hf)⟩
  refine s_Text_skip_0 ?_
  unfold t_Text_skip_0 t_Text_skip_11
  have k2 : (m_up I 1 3 (nI (bl N w p))) 1 2 = nI N := hB.2.2.1
  have k3 : (m_up I 1 3 (nI (bl N w p))) 1 3 = nI (bl N w p) := rfl
  have n6 := hB.1
  rw [k2, k3, nI_1, up_up]
  by_cases c2 : bl N w p < N
  · exact bq_f (nI_ge c2 (by omega)) (hq _ (FR.up (by decide) _ _) (fC_at h9 (by omega)))
  · exact bq_t (nI_le (by omega) (by omega)) (hq _ fr hf)
theorem q_byteAt {p : Nat} (hB : cB I N w) (hp : p ≤ 600) (hq : Q (.inl (some (.int (cv N w p)))) I T) : ev E 35 0 [some (.ref 1), some (.int (nI p))] [] I T Q := by
  obtain ⟨n6, b1, b2, b3⟩ := hB
  refine s_Text_byteAt_0 ?_
  unfold t_Text_byteAt_0 t_Text_byteAt_18 t_Text_byteAt_19
  rw [b2]
  refine bq_f (nI_pos (by omega)) ?_
  unfold cv at hq
  by_cases c : p < N
  · rw [if_pos c] at hq
    obtain ⟨c1, c2⟩ := b3 p c
    refine bq_f (nI_ge c (by omega)) (bq_f (nI_ge (a := p) (b := 600) (by omega) (by omega)) ⟨gix (by omega) (by omega), ?_⟩)
    rw [nI_clamp (by omega), c2, (b255 ⟨w p, c1⟩).1]
    exact hq
  · rw [if_neg c] at hq
    exact bq_t (nI_le (by omega) (by omega)) hq
theorem q_isDigit {p : Nat} (hw : p < N → w p < 256) (h1 : isD N w p → Q (.inl (some (.int 1))) I T) (h0 : ¬ isD N w p → Q (.inl (some (.int 0))) I T) : ev E 48 0 [some (.int (cv N w p))] [] I T Q := by
  refine s_Text_isDigit_0 ?_
  unfold t_Text_isDigit_0 t_Text_isDigit_8 t_Text_isDigit_9
  unfold isD at h1 h0
  unfold cv
  by_cases c : p < N
  · rw [if_pos c]
    have := hw c
    by_cases c1 : w p < 48
    · exact bq_t (nI_lt (a := w p) (b := 48) c1 (by omega)) ⟨Or.inl rfl, h0 (fun z => by omega)⟩
    · refine bq_f (nI_nlt (a := w p) (b := 48) (by omega) (by omega)) ?_
      by_cases c2 : 57 < w p
      · exact bq_t (nI_lt (a := 57) (b := w p) c2 (by omega)) ⟨Or.inl rfl, h0 (fun z => by omega)⟩
      · exact bq_f (nI_nlt (a := 57) (b := w p) (by omega) (by omega)) ⟨Or.inr rfl, h1 ⟨c, by omega, by omega⟩⟩
  · rw [if_neg c]
    exact bq_t (by decide) ⟨Or.inl rfl, h0 (fun z => c z.1)⟩
theorem q_isLetter {p : Nat} (hw : p < N → w p < 256) (h1 : isL N w p → Q (.inl (some (.int 1))) I T) (h0 : ¬ isL N w p → Q (.inl (some (.int 0))) I T) : ev E 36 0 [some (.int (cv N w p))] [] I T Q := by
  refine s_Text_isLetter_0 ?_
  unfold t_Text_isLetter_0 t_Text_isLetter_8 t_Text_isLetter_9
  unfold isL at h1 h0
  unfold cv
  by_cases c : p < N
  · rw [if_pos c]
    have := hw c
    by_cases c1 : w p < 97
    · exact bq_t (nI_lt (a := w p) (b := 97) c1 (by omega)) ⟨Or.inl rfl, h0 (fun z => by omega)⟩
    · refine bq_f (nI_nlt (a := w p) (b := 97) (by omega) (by omega)) ?_
      by_cases c2 : 122 < w p
      · exact bq_t (nI_lt (a := 122) (b := w p) c2 (by omega)) ⟨Or.inl rfl, h0 (fun z => by omega)⟩
      · exact bq_f (nI_nlt (a := 122) (b := w p) (by omega) (by omega)) ⟨Or.inr rfl, h1 ⟨c, by omega, by omega⟩⟩
  · rw [if_neg c]
    exact bq_t (by decide) ⟨Or.inl rfl, h0 (fun z => c z.1)⟩
theorem l_num {lo hi : Int32} (hB : cB I N w) : ∀ (d p v : Nat), p + d = N → v ≤ 10000 → t_Text_takeNumber_50 E (m_up I 1 3 (nI (dgs 10000 w d p v).1)) T Q lo hi (nI (dgs 10000 w d p v).2) → t_Text_takeNumber_19 E (m_up I 1 3 (nI p)) T Q lo hi (nI v)
  | 0, p, v, hp, hv, hq => by
    have n6 := hB.1
    unfold t_Text_takeNumber_19
    have k2 : (m_up I 1 3 (nI p)) 1 2 = nI N := hB.2.2.1
    have k3 : (m_up I 1 3 (nI p)) 1 3 = nI p := rfl
    rw [k2, k3]
    exact bq_t (nI_le (by omega) (by omega)) hq
  | d + 1, p, v, hp, hv, hq => by
    have n6 := hB.1
    unfold t_Text_takeNumber_19
    have k2 : (m_up I 1 3 (nI p)) 1 2 = nI N := hB.2.2.1
    have k3 : (m_up I 1 3 (nI p)) 1 3 = nI p := rfl
    rw [k2, k3]
    refine bq_f (nI_ge (by omega) (by omega)) ?_
    have hB2 := cB_3 hB (nI p)
    refine q_byteAt hB2 (by omega) ?_
    have hwp := (hB.2.2.2 p (by omega)).1
    refine q_isDigit (fun _ => hwp) (fun c => ?_) (fun c => ?_)
    · refine bq_f (by decide) ?_
      show ev E 35 0 [some (.ref 1), some (.int (nI p))] [] _ T _
      refine q_byteAt hB2 (by omega) ?_
      have ec : cv N w p = nI (w p) := if_pos (by omega)
      rw [dgs, if_pos c.2] at hq
      show ev E 47 19 [some (.ref 1), some (.int lo), some (.int hi), none, some (.int (if 10000 < nI v * 10 + cv N w p - 48 then 10000 else nI v * 10 + cv N w p - 48))] [] (m_up (m_up I 1 3 (nI p)) 1 3 (nI p + 1)) T Q
      rw [up_up, nI_1, ec]
      have e1 : (nI v * 10 + nI (w p) - 48 : Int32) = nI (10 * v + (w p - 48)) := by
        have a1 : (nI v * 10 : Int32) = nI (v * 10) := pk_mul v 10
        have a2 : (nI (v * 10 + w p) - 48 : Int32) = nI (v * 10 + w p - 48) := pk_sub (b := 48) (by have := c.2.1; omega)
        rw [a1, nI_add, a2]
        congr 1
        have := c.2.1
        omega
      rw [e1]
      have e2 : (if 10000 < nI (10 * v + (w p - 48)) then 10000 else nI (10 * v + (w p - 48))) = nI (min (10 * v + (w p - 48)) 10000) := by
        show (if nI 10000 < nI (10 * v + (w p - 48)) then nI 10000 else nI (10 * v + (w p - 48))) = _
        by_cases y : 10000 < 10 * v + (w p - 48)
        · rw [if_pos (nI_lt (a := 10000) y (by omega)), Nat.min_eq_right (by omega)]
        · rw [if_neg (nI_nlt (a := 10000) (by omega) (by omega)), Nat.min_eq_left (by omega)]
      rw [e2]
      exact s_Text_takeNumber_19 (l_num hB d (p + 1) _ (by omega) (Nat.min_le_right _ _) hq)
    · refine bq_t rfl ?_
      rw [dgs, if_neg (fun z => c ⟨by omega, z⟩)] at hq
      exact hq
theorem q_num_t {p lo hi : Nat} (hlo : lo < 1000) (hhi : hi ≤ 1000) (h : tC I N w p) (h1 : ∀ v p', numR N w p lo hi = .inr (v, p') → ∀ J, FR [1] I J → tC J N w p' → J 1 4 = nI (bl N w p) → Q (.inl (some (.int (nI v)))) J T) (h0 : ∀ k q, numR N w p lo hi = .inl (k, q) → ∀ x J, FR [1] I J → fC J N w k q → Q (.inl (some (.int x))) J T) : ev E 47 0 [some (.ref 1), some (.int (nI lo)), some (.int (nI hi - 1)), none, none] [] I T Q := by
  have h9 := h
  obtain ⟨hB, hp, h3, h5, h6⟩ := h
  have hb := bl_le (w := w) hp
  have n6 := hB.1
  refine s_Text_takeNumber_0 ?_
  unfold t_Text_takeNumber_0
  refine q_peekP hB hp h3 ?_
  have e4 : (m_up I 1 3 (nI (bl N w p))) 1 3 = nI (bl N w p) := rfl
  show ev E 48 0 [some (.int (cv N w (bl N w p)))] [] (m_up (m_up I 1 3 (nI (bl N w p))) 1 4 ((m_up I 1 3 (nI (bl N w p))) 1 3)) T _
  rw [e4]
  have ht : tC (m_up (m_up I 1 3 (nI (bl N w p))) 1 4 (nI (bl N w p))) N w (bl N w p) := ⟨hB, hb.2, rfl, h5, h6⟩
  have fr : FR [1] I (m_up (m_up I 1 3 (nI (bl N w p))) 1 4 (nI (bl N w p))) := (FR.up (by decide) _ _).trans (FR.up (by decide) _ _)
  refine q_isDigit (fun z => (hB.2.2.2 _ z).1) (fun c => ?_) (fun c => ?_)
  · refine bq_f (by decide) ?_
    have hv := dgs_v 10000 w (N - bl N w p) (bl N w p) 0 (by omega)
    have hpl := dgs_le 10000 w (N - bl N w p) (bl N w p) 0
    have eI : m_up (m_up I 1 3 (nI (bl N w p))) 1 4 (nI (bl N w p)) = m_up (m_up I 1 4 (nI (bl N w p))) 1 3 (nI (bl N w p)) := by
      funext c j
      unfold m_up
      by_cases a : c = 1
      · subst a
        simp only [if_true]
        by_cases b : j = 4
        · subst b; rfl
        · by_cases b2 : j = 3
          · subst b2; rfl
          · simp only [if_neg b, if_neg b2]
      · simp only [if_neg a]
    show t_Text_takeNumber_19 E (m_up (m_up I 1 3 (nI (bl N w p))) 1 4 (nI (bl N w p))) T Q (nI lo) (nI hi - 1) (nI 0)
    rw [eI]
    refine l_num (cB_4 hB _) (N - bl N w p) (bl N w p) 0 (by omega) (by omega) ?_
    generalize hD : dgs 10000 w (N - bl N w p) (bl N w p) 0 = D at hv hpl
    have htD : tC (m_up (m_up I 1 4 (nI (bl N w p))) 1 3 (nI D.1)) N w D.1 := ⟨hB, by omega, rfl, h5, h6⟩
    have frD : FR [1] I (m_up (m_up I 1 4 (nI (bl N w p))) 1 3 (nI D.1)) := (FR.up (by decide) _ _).trans (FR.up (by decide) _ _)
    unfold t_Text_takeNumber_50 t_Text_takeNumber_56 t_Text_takeNumber_61
    have bad : ¬ (lo ≤ D.2 ∧ D.2 < hi) → ev E 45 0 [some (.ref 1), some (.int 2), some (.int ((m_up (m_up I 1 4 (nI (bl N w p))) 1 3 (nI D.1)) 1 4))] [] (m_up (m_up I 1 4 (nI (bl N w p))) 1 3 (nI D.1)) T (KV (fun I1 T1 => Q (.inl (some (.int (nI D.2)))) I1 T1) (fun x I1 T1 => Q (.inr x) I1 T1)) := fun z => by
      refine q_fail_t (k := 2) (q := bl N w p) htD (by omega) (fun J hJ fJ => ?_)
      exact h0 2 (bl N w p) (numR_2 c (by rw [hD]; exact z)) _ J (frD.trans hJ) fJ
    by_cases c1 : lo ≤ D.2
    · refine bq_f (nI_nlt c1 (by omega)) ?_
      have ehi : (nI D.2 ≤ nI hi - 1) ↔ D.2 < hi := by
        rw [fa_le, nI_toInt (by omega)]
        have := pk_sub_toInt (a := hi) (b := 1) (by omega) (by omega)
        have e : (nI hi - nI 1).toInt = (nI hi - 1 : Int32).toInt := rfl
        rw [← e, this]
        omega
      by_cases c2 : D.2 < hi
      · refine bq_t (ehi.mpr c2) ?_
        exact h1 _ _ (by rw [numR_ok c (by rw [hD]; exact ⟨c1, c2⟩), hD]) _ frD htD rfl
      · exact bq_f (fun z => c2 (ehi.mp z)) (bad (fun z => c2 z.2))
    · exact bq_t (nI_lt (by omega) (by omega)) (bad (fun z => c1 z.1))
  · refine bq_t rfl ?_
    refine q_fail_t (k := 1) (q := bl N w p) ht (by omega) (fun J hJ fJ => ?_)
    exact h0 1 (bl N w p) (numR_1 c) _ J (fr.trans hJ) fJ
theorem q_num_f {k q : Nat} (lo hi : Int32) (h : fC I N w k q) (hq : ∀ x J, FR [1] I J → fC J N w k q → Q (.inl (some (.int x))) J T) : ev E 47 0 [some (.ref 1), some (.int lo), some (.int hi), none, none] [] I T Q := by
  have h9 := h
  obtain ⟨hB, ⟨p, hp, h3⟩, h5, hk, h6⟩ := h
  have hb := bl_le (w := w) hp
  refine s_Text_takeNumber_0 ?_
  unfold t_Text_takeNumber_0
  refine q_peekP hB hp h3 ?_
  have e4 : (m_up I 1 3 (nI (bl N w p))) 1 3 = nI (bl N w p) := rfl
  show ev E 48 0 [some (.int (cv N w (bl N w p)))] [] (m_up (m_up I 1 3 (nI (bl N w p))) 1 4 ((m_up I 1 3 (nI (bl N w p))) 1 3)) T _
  rw [e4]
  have hf : fC (m_up (m_up I 1 3 (nI (bl N w p))) 1 4 (nI (bl N w p))) N w k q := ⟨hB, ⟨_, hb.2, rfl⟩, h5, hk, h6⟩
  have fr : FR [1] I (m_up (m_up I 1 3 (nI (bl N w p))) 1 4 (nI (bl N w p))) := (FR.up (by decide) _ _).trans (FR.up (by decide) _ _)
  refine q_isDigit (fun z => (hB.2.2.2 _ z).1) (fun c => ?_) (fun c => ?_)
  · refine bq_f (by decide) ?_
    have eI : m_up (m_up I 1 3 (nI (bl N w p))) 1 4 (nI (bl N w p)) = m_up (m_up I 1 4 (nI (bl N w p))) 1 3 (nI (bl N w p)) := by
      funext c j
      unfold m_up
      by_cases a : c = 1
      · subst a
        simp only [if_true]
        by_cases b : j = 4
        · subst b; rfl
        · by_cases b2 : j = 3
          · subst b2; rfl
          · simp only [if_neg b, if_neg b2]
      · simp only [if_neg a]
    show t_Text_takeNumber_19 E (m_up (m_up I 1 3 (nI (bl N w p))) 1 4 (nI (bl N w p))) T Q lo hi (nI 0)
    rw [eI]
    refine l_num (cB_4 hB _) (N - bl N w p) (bl N w p) 0 (by omega) (by omega) ?_
    have hpl := dgs_le 10000 w (N - bl N w p) (bl N w p) 0
    generalize dgs 10000 w (N - bl N w p) (bl N w p) 0 = D at hpl
    have hfD : fC (m_up (m_up I 1 4 (nI (bl N w p))) 1 3 (nI D.1)) N w k q := ⟨hB, ⟨D.1, by omega, rfl⟩, h5, hk, h6⟩
    have frD : FR [1] I (m_up (m_up I 1 4 (nI (bl N w p))) 1 3 (nI D.1)) := (FR.up (by decide) _ _).trans (FR.up (by decide) _ _)
    unfold t_Text_takeNumber_50 t_Text_takeNumber_56 t_Text_takeNumber_61
    refine ⟨fun _ => q_fail_f hfD _ _ (hq _ _ frD hfD), fun _ => ⟨fun _ => hq _ _ frD hfD, fun _ => q_fail_f hfD _ _ (hq _ _ frD hfD)⟩⟩
  · refine bq_t rfl ?_
    exact q_fail_f hf _ _ (hq _ _ fr hf)
end TEXT
