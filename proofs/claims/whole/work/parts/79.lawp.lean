/-! ===== law: the text, pure ===== -/
abbrev CL : Type := List (Nat × Int32)
/-- how many values wait -/
def dp : CL → Nat
  | [] => 0
  | c :: l => if c.1 ≤ 1 then dp l + 1 else dp l - 1
def okl : CL → Prop
  | [] => True
  | c :: l => okl l ∧ ((c.1 ≤ 1 ∧ dp l < 24 ∧ ∃ v, v < 1000 ∧ c.2 = nI v ∧ (c.1 = 1 → v < 8)) ∨ (2 ≤ c.1 ∧ c.1 ≤ 8 ∧ 2 ≤ dp l ∧ dp l ≤ 24))
def cdl : CL → Nat → Nat × Int32
  | [], _ => (0, 0)
  | c :: l, k => if k = l.length then c else cdl l k
def dpl : CL → Nat → Nat
  | [], _ => 0
  | c :: l, k => if k = l.length + 1 then dp (c :: l) else dpl l k
theorem dpl_len : ∀ l : CL, dpl l l.length = dp l
  | [] => rfl
  | c :: l => by rw [dpl, List.length_cons, if_pos rfl]
theorem dpl_0 : ∀ l : CL, dpl l 0 = 0
  | [] => rfl
  | c :: l => by rw [dpl, if_neg (by omega)]; exact dpl_0 l
theorem okl_at : ∀ (l : CL), okl l → ∀ k, k < l.length → ((cdl l k).1 ≤ 1 ∧ dpl l (k + 1) = dpl l k + 1 ∧ dpl l k < 24 ∧ ∃ v, v < 1000 ∧ (cdl l k).2 = nI v ∧ ((cdl l k).1 = 1 → v < 8)) ∨ (2 ≤ (cdl l k).1 ∧ (cdl l k).1 ≤ 8 ∧ 2 ≤ dpl l k ∧ dpl l k ≤ 24 ∧ dpl l (k + 1) + 1 = dpl l k)
  | [], _, k, hk => absurd hk (Nat.not_lt_zero _)
  | c :: l, h, k, hk => by
    rw [List.length_cons] at hk
    by_cases e : k = l.length
    · subst e
      have d1 : dpl (c :: l) l.length = dp l := by rw [dpl, if_neg (by omega)]; exact dpl_len l
      have d2 : dpl (c :: l) (l.length + 1) = dp (c :: l) := by rw [dpl, if_pos rfl]
      have d3 : cdl (c :: l) l.length = c := by rw [cdl, if_pos rfl]
      rw [d1, d2, d3]
      rcases h.2 with q | q
      · exact Or.inl ⟨q.1, by rw [dp, if_pos q.1], q.2.1, q.2.2⟩
      · refine Or.inr ⟨q.1, q.2.1, q.2.2.1, q.2.2.2, ?_⟩
        rw [dp, if_neg (by omega)]
        omega
    · have d1 : dpl (c :: l) k = dpl l k := by rw [dpl, if_neg (by omega)]
      have d2 : dpl (c :: l) (k + 1) = dpl l (k + 1) := by rw [dpl, if_neg (by omega)]
      have d3 : cdl (c :: l) k = cdl l k := by rw [cdl, if_neg e]
      rw [d1, d2, d3]
      exact okl_at l h.1 k (by omega)
theorem lawW_of {l : CL} (h : okl l) (h1 : 1 ≤ dp l) (hn : l.length ≤ 150) : lawW (cdl l) l.length (dpl l) := ⟨dpl_0 l, by rw [dpl_len]; exact h1, hn, okl_at l h⟩
def bndR {α β : Type} (r : RS α) (f : α → Nat → RS β) : RS β := match r with
  | .inl e => .inl e
  | .inr (x, p) => f x p
theorem bndR_l {α β : Type} {r : RS α} {f : α → Nat → RS β} {e : Nat × Nat} (h : r = .inl e) : bndR r f = .inl e := by rw [h]; rfl
theorem bndR_r {α β : Type} {r : RS α} {f : α → Nat → RS β} {x : α} {p : Nat} (h : r = .inr (x, p)) : bndR r f = f x p := by rw [h]; rfl
theorem bndR_i {α β : Type} {r : RS α} {f : α → Nat → RS β} {y : β × Nat} (h : bndR r f = .inr y) : ∃ x p, r = .inr (x, p) ∧ f x p = .inr y := by
  cases r with
  | inl e => cases h
  | inr z => exact ⟨z.1, z.2, rfl, h⟩
theorem mapR_i {α β : Type} {r : RS α} {g : α → β} {y : β} {p : Nat} (h : mapR r g = .inr (y, p)) : ∃ x, r = .inr (x, p) ∧ g x = y := by
  cases r with
  | inl e => cases h
  | inr z =>
    obtain ⟨a, b⟩ := z
    have h2 : (Sum.inr (g a, b) : RS β) = .inr (y, p) := h
    injection h2 with h2
    injection h2 with h3 h4
    exact ⟨a, by rw [h4], h3⟩
abbrev CR : Type := RS CL
noncomputable def chcR (N : Nat) (w : Nat → Nat) (S : Nat → CL → CR) (c p : Nat) (l : CL) : CR := bndR (sgnR N w p 91) (fun _ p1 => bndR (S p1 l) (fun l1 p2 => bndR (sgnR N w p2 44) (fun _ p3 => bndR (S p3 l1) (fun l2 p4 => mapR (sgnR N w p4 93) (fun _ => (c, 0) :: l2)))))
noncomputable def brkR (N : Nat) (w : Nat → Nat) (S : Nat → CL → CR) (p : Nat) (l : CL) : CR := bndR (S p l) (fun l1 p1 => mapR (sgnR N w p1 41) (fun _ => l1))
noncomputable def untR (N : Nat) (w : Nat → Nat) (S : Nat → CL → CR) (g : Bool) (p : Nat) (l : CL) : CR := by
  classical exact if isD N w (bl N w p) then mapR (numR N w p 0 1000) (fun v => (0, nI v) :: l) else if bl N w p < N ∧ w (bl N w p) = 40 then (if g = true then brkR N w S (bl N w p + 1) l else .inl (3, bl N w p)) else match kx W4 (wd N w p) 0 with
    | none => .inl (1, bl N w p)
    | some i => if i < 8 then .inr ((1, nI i) :: l, le N w (bl N w p)) else if g = true then chcR N w S (i - 1) (le N w (bl N w p)) l else .inl (3, bl N w p)
def opAt (N : Nat) (w : Nat → Nat) (L : List (Nat × Nat)) (p : Nat) : Option Nat := if bl N w p < N then (L.find? (fun x => x.1 == w (bl N w p))).map Prod.snd else none
noncomputable def lopR (N : Nat) (w : Nat → Nat) (L : List (Nat × Nat)) (U : Nat → CL → CR) : Nat → Nat → CL → CR
  | 0, p, l => .inr (l, bl N w p)
  | d + 1, p, l => match opAt N w L p with
    | none => .inr (l, bl N w p)
    | some c => bndR (U (bl N w p + 1) l) (fun l1 p1 => lopR N w L U d p1 ((c, 0) :: l1))
noncomputable def seqR (N : Nat) (w : Nat → Nat) (L : List (Nat × Nat)) (U : Nat → CL → CR) (p : Nat) (l : CL) : CR := bndR (U p l) (fun l1 p1 => lopR N w L U 151 p1 l1)
def opP : List (Nat × Nat) := [(42, 4), (47, 5), (37, 6)]
def opS : List (Nat × Nat) := [(43, 2), (45, 3)]
noncomputable def sumD (N : Nat) (w : Nat → Nat) : Nat → Nat → CL → CR
  | 0, _, _ => .inl (0, 0)
  | n + 1, p, l => seqR N w opS (seqR N w opP (untR N w (sumD N w n) (decide (0 < n)))) p l
noncomputable def lwR (N : Nat) (w : Nat → Nat) : Sum (Nat × Nat) CL := match sumD N w 7 0 [] with
  | .inl e => .inl e
  | .inr (l, p) => if bl N w p = N then .inr l else .inl (1, bl N w p)
section LPURE
variable {N : Nat} {w : Nat → Nat}
theorem unt_n {S : Nat → CL → CR} {g : Bool} {p : Nat} {l : CL} (h : isD N w (bl N w p)) : untR N w S g p l = mapR (numR N w p 0 1000) (fun v => (0, nI v) :: l) := by unfold untR; rw [if_pos h]
theorem unt_b {S : Nat → CL → CR} {p : Nat} {l : CL} (h : ¬ isD N w (bl N w p)) (k : bl N w p < N ∧ w (bl N w p) = 40) : untR N w S true p l = brkR N w S (bl N w p + 1) l := by unfold untR; rw [if_neg h, if_pos k, if_pos rfl]
theorem unt_b3 {S : Nat → CL → CR} {p : Nat} {l : CL} (h : ¬ isD N w (bl N w p)) (k : bl N w p < N ∧ w (bl N w p) = 40) : untR N w S false p l = .inl (3, bl N w p) := by unfold untR; rw [if_neg h, if_pos k, if_neg (by decide)]
theorem unt_w1 {S : Nat → CL → CR} {g : Bool} {p : Nat} {l : CL} (h : ¬ isD N w (bl N w p)) (k : ¬ (bl N w p < N ∧ w (bl N w p) = 40)) (e : kx W4 (wd N w p) 0 = none) : untR N w S g p l = .inl (1, bl N w p) := by unfold untR; rw [if_neg h, if_neg k, e]
theorem unt_w {S : Nat → CL → CR} {g : Bool} {p i : Nat} {l : CL} (h : ¬ isD N w (bl N w p)) (k : ¬ (bl N w p < N ∧ w (bl N w p) = 40)) (e : kx W4 (wd N w p) 0 = some i) (hi : i < 8) : untR N w S g p l = .inr ((1, nI i) :: l, le N w (bl N w p)) := by
  unfold untR; rw [if_neg h, if_neg k, e]; exact if_pos hi
theorem unt_c {S : Nat → CL → CR} {p i : Nat} {l : CL} (h : ¬ isD N w (bl N w p)) (k : ¬ (bl N w p < N ∧ w (bl N w p) = 40)) (e : kx W4 (wd N w p) 0 = some i) (hi : ¬ i < 8) : untR N w S true p l = chcR N w S (i - 1) (le N w (bl N w p)) l := by
  unfold untR; rw [if_neg h, if_neg k, e]; show (if i < 8 then _ else _) = _; rw [if_neg hi, if_pos rfl]
theorem unt_c3 {S : Nat → CL → CR} {p i : Nat} {l : CL} (h : ¬ isD N w (bl N w p)) (k : ¬ (bl N w p < N ∧ w (bl N w p) = 40)) (e : kx W4 (wd N w p) 0 = some i) (hi : ¬ i < 8) : untR N w S false p l = .inl (3, bl N w p) := by
  unfold untR; rw [if_neg h, if_neg k, e]; show (if i < 8 then _ else _) = _; rw [if_neg hi, if_neg (by decide)]
theorem lop_n {L : List (Nat × Nat)} {U : Nat → CL → CR} {d p : Nat} {l : CL} (h : opAt N w L p = none) : lopR N w L U (d + 1) p l = .inr (l, bl N w p) := by rw [lopR, h]
theorem lop_s {L : List (Nat × Nat)} {U : Nat → CL → CR} {d p c : Nat} {l : CL} (h : opAt N w L p = some c) : lopR N w L U (d + 1) p l = bndR (U (bl N w p + 1) l) (fun l1 p1 => lopR N w L U d p1 ((c, 0) :: l1)) := by rw [lopR, h]
theorem op_in {L : List (Nat × Nat)} (hL : ∀ x, x ∈ L → 2 ≤ x.2 ∧ x.2 ≤ 8) {p c : Nat} (h : opAt N w L p = some c) : bl N w p < N ∧ 2 ≤ c ∧ c ≤ 8 := by
  unfold opAt at h
  by_cases z : bl N w p < N
  · rw [if_pos z] at h
    obtain ⟨x, x1, x2⟩ := Option.map_eq_some_iff.mp h
    have := hL x (List.mem_of_find?_eq_some x1)
    rw [x2] at this
    exact ⟨z, this⟩
  · rw [if_neg z] at h; cases h
theorem kx_mem {x : List Nat} : ∀ (L : List (List Nat)) (a i : Nat), kx L x a = some i → x ∈ L
  | [], a, i, h => by cases h
  | y :: L, a, i, h => by
    rw [kx] at h
    by_cases c : x = y
    · rw [c]; exact List.mem_cons_self
    · rw [if_neg c] at h
      exact List.mem_cons_of_mem _ (kx_mem L (a + 1) i h)
theorem kx4 {x : List Nat} {i : Nat} (h : kx W4 x 0 = some i) : i < 10 ∧ 0 < x.length := by
  have := (kx_lt W4 0 i h).2
  have e : W4.length = 10 := rfl
  have q : ∀ y, y ∈ W4 → 0 < y.length := by decide
  exact ⟨by omega, q x (kx_mem W4 0 i h)⟩
theorem wd_pos {p : Nat} (hp : p ≤ N) (h : 0 < (wd N w p).length) : bl N w p < le N w (bl N w p) := by
  unfold wd at h
  rw [rl_len] at h
  omega
theorem numR_pos {p lo hi v p' : Nat} (hp : p ≤ N) (h : numR N w p lo hi = .inr (v, p')) : p < p' ∧ p' ≤ N := by
  have hb := bl_le (w := w) hp
  by_cases c : isD N w (bl N w p)
  · by_cases d : lo ≤ (dgs 10000 w (N - bl N w p) (bl N w p) 0).2 ∧ (dgs 10000 w (N - bl N w p) (bl N w p) 0).2 < hi
    · rw [numR_ok c d] at h
      injection h with h
      injection h with h1 h2
      have e : N - bl N w p = (N - bl N w p - 1) + 1 := by have := c.1; omega
      rw [e, dgs, if_pos c.2] at h2
      have := dgs_le 10000 w (N - bl N w p - 1) (bl N w p + 1) (min (10 * 0 + (w (bl N w p) - 48)) 10000)
      have := c.1
      omega
    · rw [numR_2 c d] at h; cases h
  · rw [numR_1 c] at h; cases h
theorem sgnR_pos {p c p' : Nat} {u : Unit} (hp : p ≤ N) (h : sgnR N w p c = .inr (u, p')) : p < p' ∧ p' ≤ N := by
  have hb := bl_le (w := w) hp
  by_cases z : bl N w p < N ∧ w (bl N w p) = c
  · rw [sgnR_t z] at h
    injection h with h
    injection h with h1 h2
    omega
  · rw [sgnR_f z] at h; cases h
/-- a reader that leaves one value more -/
def gd (N : Nat) (f : Nat → CL → CR) (m : Nat) : Prop := ∀ p l l' p', p ≤ N → okl l → dp l ≤ m → f p l = .inr (l', p') → okl l' ∧ dp l' = dp l + 1 ∧ l'.length + p ≤ p' + l.length ∧ p < p' ∧ p' ≤ N
theorem gd_unt {S : Nat → CL → CR} {g : Bool} {m : Nat} (hm : m ≤ 22) (hS : g = true → gd N S (m + 1)) : gd N (untR N w S g) m := by
  intro p l l' p' hp hl hd h
  have hb := bl_le (w := w) hp
  by_cases c : isD N w (bl N w p)
  · rw [unt_n c] at h
    obtain ⟨v, e1, e2⟩ := mapR_i h
    have hv := numR_in e1
    have hq := numR_pos hp e1
    subst e2
    refine ⟨⟨hl, Or.inl ⟨by show 0 ≤ 1; omega, by omega, v, hv.2, rfl, fun z => absurd z (by show ¬ 0 = 1; omega)⟩⟩, ?_, ?_, hq⟩
    · rw [dp]; exact if_pos (by show 0 ≤ 1; omega)
    · rw [List.length_cons]; omega
  · by_cases k : bl N w p < N ∧ w (bl N w p) = 40
    · cases g with
      | false => rw [unt_b3 c k] at h; cases h
      | true =>
        rw [unt_b c k] at h
        obtain ⟨l1, p1, e1, e2⟩ := bndR_i h
        obtain ⟨u, e3, e4⟩ := mapR_i e2
        obtain ⟨a1, a2, a3, a4, a5⟩ := hS rfl _ _ _ _ (by omega) hl (by omega) e1
        have := sgnR_pos a5 e3
        subst e4
        exact ⟨a1, a2, by omega, by omega, by omega⟩
    · cases e : kx W4 (wd N w p) 0 with
      | none => rw [unt_w1 c k e] at h; cases h
      | some i =>
        have i10 := kx4 e
        have hw := wd_pos hp i10.2
        have hle := le_le (w := w) hb.2
        by_cases hi : i < 8
        · rw [unt_w c k e hi] at h
          injection h with h
          injection h with h1 h2
          subst h1
          refine ⟨⟨hl, Or.inl ⟨by show 1 ≤ 1; omega, by omega, i, by omega, rfl, fun _ => hi⟩⟩, ?_, ?_, by omega, by omega⟩
          · rw [dp]; exact if_pos (by show 1 ≤ 1; omega)
          · rw [List.length_cons]; omega
        · cases g with
          | false => rw [unt_c3 c k e hi] at h; cases h
          | true =>
            rw [unt_c c k e hi] at h
            obtain ⟨u1, p1, e1, h⟩ := bndR_i h
            obtain ⟨l1, p2, e2, h⟩ := bndR_i h
            obtain ⟨u2, p3, e3, h⟩ := bndR_i h
            obtain ⟨l2, p4, e4, h⟩ := bndR_i h
            obtain ⟨u3, e5, e6⟩ := mapR_i h
            have q1 := sgnR_pos hle.2 e1
            obtain ⟨a1, a2, a3, a4, a5⟩ := hS rfl _ _ _ _ q1.2 hl (by omega) e2
            have q2 := sgnR_pos a5 e3
            obtain ⟨b1, b2, b3, b4, b5⟩ := hS rfl _ _ _ _ q2.2 a1 (by omega) e4
            have q3 := sgnR_pos b5 e5
            subst e6
            refine ⟨⟨b1, Or.inr ⟨by show 2 ≤ i - 1; omega, by show i - 1 ≤ 8; omega, by omega, by omega⟩⟩, ?_, ?_, by omega, by omega⟩
            · rw [dp, if_neg (by show ¬ i - 1 ≤ 1; omega)]; omega
            · rw [List.length_cons]; omega
theorem gd_lop {L : List (Nat × Nat)} (hL : ∀ x, x ∈ L → 2 ≤ x.2 ∧ x.2 ≤ 8) {U : Nat → CL → CR} {m : Nat} (hm : m ≤ 22) (hU : gd N U (m + 1)) : ∀ (d p : Nat) (l l' : CL) (p' : Nat), p ≤ N → okl l → 1 ≤ dp l → dp l ≤ m + 1 → lopR N w L U d p l = .inr (l', p') → okl l' ∧ dp l' = dp l ∧ l'.length + p ≤ p' + l.length ∧ p ≤ p' ∧ p' ≤ N
  | 0, p, l, l', p', hp, hl, h1, h2, h => by
    have hb := bl_le (w := w) hp
    rw [lopR] at h
    injection h with h
    injection h with e1 e2
    subst e1
    exact ⟨hl, rfl, by omega, by omega, by omega⟩
  | d + 1, p, l, l', p', hp, hl, h1, h2, h => by
    have hb := bl_le (w := w) hp
    cases e : opAt N w L p with
    | none =>
      rw [lop_n e] at h
      injection h with h
      injection h with e1 e2
      subst e1
      exact ⟨hl, rfl, by omega, by omega, by omega⟩
    | some c =>
      rw [lop_s e] at h
      obtain ⟨l1, p1, e1, h⟩ := bndR_i h
      have ho := op_in hL e
      obtain ⟨a1, a2, a3, a4, a5⟩ := hU _ _ _ _ (by omega) hl (by omega) e1
      have dd : dp ((c, 0) :: l1) = dp l := by rw [dp, if_neg (by show ¬ c ≤ 1; omega)]; omega
      obtain ⟨b1, b2, b3, b4, b5⟩ := gd_lop hL hm hU d p1 ((c, 0) :: l1) l' p' a5 ⟨a1, Or.inr ⟨ho.2.1, ho.2.2, by omega, by omega⟩⟩ (by omega) (by omega) h
      rw [List.length_cons] at b3
      exact ⟨b1, by omega, by omega, by omega, b5⟩
theorem gd_seq {L : List (Nat × Nat)} (hL : ∀ x, x ∈ L → 2 ≤ x.2 ∧ x.2 ≤ 8) {U : Nat → CL → CR} {m : Nat} (hm : m ≤ 22) (hU : gd N U (m + 1)) : gd N (seqR N w L U) m := by
  intro p l l' p' hp hl hd h
  obtain ⟨l1, p1, e1, h⟩ := bndR_i h
  obtain ⟨a1, a2, a3, a4, a5⟩ := hU _ _ _ _ hp hl (by omega) e1
  obtain ⟨b1, b2, b3, b4, b5⟩ := gd_lop hL hm hU 151 p1 l1 l' p' a5 a1 (by omega) (by omega) h
  exact ⟨b1, by omega, by omega, by omega, b5⟩
theorem opP_ok : ∀ x, x ∈ opP → 2 ≤ x.2 ∧ x.2 ≤ 8 := by decide
theorem opS_ok : ∀ x, x ∈ opS → 2 ≤ x.2 ∧ x.2 ≤ 8 := by decide
theorem gd_sum : ∀ (n x : Nat), n + x = 7 → gd N (sumD N w n) (3 * x)
  | 0, x, hx => by
    intro p l l' p' _ _ _ h
    cases h
  | n + 1, x, hx => by
    have ih := gd_sum n (x + 1) (by omega)
    exact gd_seq opS_ok (by omega) (gd_seq opP_ok (by omega) (gd_unt (by omega) (fun _ => by rw [show 3 * x + 1 + 1 + 1 = 3 * (x + 1) by omega]; exact ih)))
theorem numR_bl {p lo hi : Nat} (hp : p ≤ N) : numR N w (bl N w p) lo hi = numR N w p lo hi := by unfold numR; rw [bl_bl hp]
theorem unt_bl {S : Nat → CL → CR} {g : Bool} {p : Nat} {l : CL} (hp : p ≤ N) : untR N w S g (bl N w p) l = untR N w S g p l := by unfold untR; rw [bl_bl hp, numR_bl hp, wd_bl hp]
theorem sum_bl {n p : Nat} {l : CL} (hp : p ≤ N) : sumD N w (n + 1) (bl N w p) l = sumD N w (n + 1) p l := by
  rw [sumD, sumD, seqR, seqR, seqR, seqR, unt_bl hp]
end LPURE
