/-! ===== house: the text ===== -/
theorem nI_le_iff {a b : Nat} (ha : a < 2 ^ 31) (hb : b < 2 ^ 31) : nI a ≤ nI b ↔ a ≤ b := ⟨fun h => Nat.le_of_not_lt (fun q => absurd h (nI_ge (a := b) (b := a) q (by omega))), fun h => nI_le h (by omega)⟩
theorem nI_lt_iff {a b : Nat} (ha : a < 2 ^ 31) (hb : b < 2 ^ 31) : nI a < nI b ↔ a < b := ⟨fun h => Nat.lt_of_not_le (fun q => absurd h (nI_nlt (a := a) (b := b) q (by omega))), fun h => nI_lt h (by omega)⟩
/-- feelings, stages, bears; pull, calm, foes; length, turn -/
abbrev HS : Type := (Nat × Nat × Nat) × (Nat → Nat) × (Nat → Nat) × (Nat → Nat) × (Nat → Nat) × (Nat → Nat)
def uN (g : Nat → Nat) (i v : Nat) : Nat → Nat := fun j => if j = i then v else g j
theorem uN_eq (g : Nat → Nat) (i v : Nat) : uN g i v i = v := if_pos rfl
theorem uN_ne {g : Nat → Nat} {i v j : Nat} (h : j ≠ i) : uN g i v j = g j := if_neg h
def HV (σ : HS) : Prop := σ.1.1 ≤ 8 ∧ σ.1.2.1 ≤ 6 ∧ σ.1.2.2 ≤ 40 ∧ (∀ f, f < σ.1.1 → σ.2.1 f ≤ 20 ∧ σ.2.2.1 f ≤ 9) ∧ (∀ f, σ.2.2.2.1 f < 256 ∧ (σ.1.1 ≤ f → σ.2.2.2.1 f = 0)) ∧ ∀ s, s < σ.1.2.1 → (1 ≤ σ.2.2.2.2.1 s ∧ σ.2.2.2.2.1 s ≤ 60) ∧ σ.2.2.2.2.2 s ≤ 9
def hsC (J : II) (σ : HS) : Prop := J 9 5 = nI σ.1.1 ∧ J 9 6 = nI σ.1.2.1 ∧ J 9 7 = nI σ.1.2.2 ∧ (∀ f, f < σ.1.1 → J 10 f = nI (σ.2.1 f) ∧ J 11 f = nI (σ.2.2.1 f) ∧ J 12 f = nI (σ.2.2.2.1 f)) ∧ ∀ s, s < σ.1.2.1 → J 13 s = nI (σ.2.2.2.2.1 s) ∧ J 14 s = nI (σ.2.2.2.2.2 s)
def hsM (J : II) (σ : HS) : Prop := J 49 0 = nI σ.1.1 ∧ J 49 1 = nI σ.1.2.1 ∧ J 49 2 = nI σ.1.2.2 ∧ (∀ f, f < σ.1.1 → J (52 + f) 0 = nI (σ.2.1 f) ∧ J (52 + f) 1 = nI (σ.2.2.1 f)) ∧ (∀ f, f < 8 → J 83 f = nI (σ.2.2.2.1 f)) ∧ ∀ s, s < σ.1.2.1 → J (70 + s) 0 = nI (σ.2.2.2.2.1 s) ∧ J (70 + s) 1 = nI (σ.2.2.2.2.2 s)
theorem hsC.of {J K : II} {σ : HS} (h : hsC J σ) (e : ∀ c, 9 ≤ c → c ≤ 14 → K c = J c) : hsC K σ := by
  unfold hsC at h ⊢
  rw [e 9 (by omega) (by omega), e 10 (by omega) (by omega), e 11 (by omega) (by omega), e 12 (by omega) (by omega), e 13 (by omega) (by omega), e 14 (by omega) (by omega)]
  exact h
theorem hsM.of {J K : II} {σ : HS} (hv : HV σ) (h : hsM J σ) (e : ∀ c, 49 ≤ c → c ≤ 83 → K c = J c) : hsM K σ := by
  unfold hsM at h ⊢
  have a1 := hv.1
  have a2 := hv.2.1
  rw [e 49 (by omega) (by omega), e 83 (by omega) (by omega)]
  refine ⟨h.1, h.2.1, h.2.2.1, fun f hf => ?_, h.2.2.2.2.1, fun s hs => ?_⟩
  · rw [e (52 + f) (by omega) (by omega)]; exact h.2.2.2.1 f hf
  · rw [e (70 + s) (by omega) (by omega)]; exact h.2.2.2.2.2 s hs
/-- one feeling more; a clash; one stage more; bears -/
def s0 (σ : HS) (x y : Nat) : HS := ((σ.1.1 + 1, σ.1.2.1, σ.1.2.2), uN σ.2.1 σ.1.1 x, uN σ.2.2.1 σ.1.1 y, σ.2.2.2.1, σ.2.2.2.2.1, σ.2.2.2.2.2)
def s1 (σ : HS) (a b : Nat) : HS := (σ.1, σ.2.1, σ.2.2.1, uN (uN σ.2.2.2.1 a (σ.2.2.2.1 a ||| 2 ^ b)) b (σ.2.2.2.1 b ||| 2 ^ a), σ.2.2.2.2.1, σ.2.2.2.2.2)
def s2 (σ : HS) (x y : Nat) : HS := ((σ.1.1, σ.1.2.1 + 1, σ.1.2.2), σ.2.1, σ.2.2.1, σ.2.2.2.1, uN σ.2.2.2.2.1 σ.1.2.1 x, uN σ.2.2.2.2.2 σ.1.2.1 y)
def s3 (σ : HS) (x : Nat) : HS := ((σ.1.1, σ.1.2.1, x), σ.2)
theorem HV_0 {σ : HS} (h : HV σ) (hF : σ.1.1 < 8) {x y : Nat} (hx : x ≤ 20) (hy : y ≤ 9) : HV (s0 σ x y) := by
  obtain ⟨a, b, c, d, e, g⟩ := h
  refine ⟨by show σ.1.1 + 1 ≤ 8; omega, b, c, fun f hf => ?_, fun f => ⟨(e f).1, fun z => (e f).2 (by have : σ.1.1 + 1 ≤ f := z; omega)⟩, g⟩
  show uN σ.2.1 σ.1.1 x f ≤ 20 ∧ uN σ.2.2.1 σ.1.1 y f ≤ 9
  by_cases q : f = σ.1.1
  · rw [q, uN_eq, uN_eq]; exact ⟨hx, hy⟩
  · rw [uN_ne q, uN_ne q]; exact d f (by have : f < σ.1.1 + 1 := hf; omega)
theorem or_256 {m f : Nat} (hm : m < 256) (hf : f < 8) : m ||| 2 ^ f < 256 := Nat.or_lt_two_pow (n := 8) hm (Nat.lt_of_lt_of_le (Nat.pow_lt_pow_right (by omega) hf) (Nat.le_refl _))
theorem HV_1 {σ : HS} (h : HV σ) {x y : Nat} (hx : x < σ.1.1) (hy : y < σ.1.1) : HV (s1 σ x y) := by
  obtain ⟨a, b, c, d, e, g⟩ := h
  refine ⟨a, b, c, d, fun f => ?_, g⟩
  show uN (uN σ.2.2.2.1 x (σ.2.2.2.1 x ||| 2 ^ y)) y (σ.2.2.2.1 y ||| 2 ^ x) f < 256 ∧ (σ.1.1 ≤ f → uN (uN σ.2.2.2.1 x (σ.2.2.2.1 x ||| 2 ^ y)) y (σ.2.2.2.1 y ||| 2 ^ x) f = 0)
  by_cases q : f = y
  · rw [q, uN_eq]; exact ⟨or_256 (e y).1 (by omega), fun z => absurd z (by omega)⟩
  · rw [uN_ne q]
    by_cases r : f = x
    · rw [r, uN_eq]; exact ⟨or_256 (e x).1 (by omega), fun z => absurd z (by omega)⟩
    · rw [uN_ne r]; exact e f
theorem HV_2 {σ : HS} (h : HV σ) (hF : σ.1.2.1 < 6) {x y : Nat} (h1 : 1 ≤ x) (hx : x ≤ 60) (hy : y ≤ 9) : HV (s2 σ x y) := by
  obtain ⟨a, b, c, d, e, g⟩ := h
  refine ⟨a, by show σ.1.2.1 + 1 ≤ 6; omega, c, d, e, fun f hf => ?_⟩
  show (1 ≤ uN σ.2.2.2.2.1 σ.1.2.1 x f ∧ uN σ.2.2.2.2.1 σ.1.2.1 x f ≤ 60) ∧ uN σ.2.2.2.2.2 σ.1.2.1 y f ≤ 9
  by_cases q : f = σ.1.2.1
  · rw [q, uN_eq, uN_eq]; exact ⟨⟨h1, hx⟩, hy⟩
  · rw [uN_ne q, uN_ne q]; exact g f (by have : f < σ.1.2.1 + 1 := hf; omega)
theorem HV_3 {σ : HS} (h : HV σ) {x : Nat} (hx : x ≤ 40) : HV (s3 σ x) := ⟨h.1, h.2.1, hx, h.2.2.2⟩
/-- two numbers -/
noncomputable def twR (N : Nat) (w : Nat → Nat) (p a b c d : Nat) : RS (Nat × Nat) := match numR N w p a b with
  | .inl e => .inl e
  | .inr (x, p1) => match numR N w p1 c d with
    | .inl e => .inl e
    | .inr (y, p2) => .inr ((x, y), p2)
noncomputable def cshR (N : Nat) (w : Nat → Nat) (p F : Nat) : RS (Nat × Nat) := match numR N w p 0 F with
  | .inl e => .inl e
  | .inr (x, p1) => match numR N w p1 0 F with
    | .inl e => .inl e
    | .inr (y, p2) => if x = y then .inl (2, bl N w p1) else .inr ((x, y), p2)
def mapR {α β : Type} (r : RS α) (g : α → β) : RS β := match r with
  | .inl e => .inl e
  | .inr (x, p) => .inr (g x, p)
noncomputable def bodR (N : Nat) (w : Nat → Nat) (σ : HS) (i p : Nat) : RS HS :=
  if i = 0 then mapR (twR N w p 1 21 0 10) (fun x => s0 σ x.1 x.2)
  else if i = 1 then mapR (cshR N w p σ.1.1) (fun x => s1 σ x.1 x.2)
  else if i = 2 then mapR (twR N w p 1 61 0 10) (fun x => s2 σ x.1 x.2)
  else mapR (numR N w p 1 41) (fun x => s3 σ x)
noncomputable def hcR (N : Nat) (w : Nat → Nat) (σ : HS) (c p : Nat) : RS HS := match kx W3 (wd N w p) 0 with
  | none => .inl (1, bl N w p)
  | some i => if 60 ≤ c ∨ (i = 0 ∧ 8 ≤ σ.1.1) ∨ (i = 2 ∧ 6 ≤ σ.1.2.1) then .inl (3, bl N w p) else bodR N w σ i (le N w (bl N w p))
noncomputable def hsR (N : Nat) (w : Nat → Nat) : Nat → Nat → Nat → HS → Sum (Nat × Nat) HS
  | 0, _, _, σ => .inr σ
  | d + 1, c, p, σ => if bl N w p = N then .inr σ else match hcR N w σ c (bl N w p) with
    | .inl e => .inl e
    | .inr (σ', p1) => match sgnR N w p1 59 with
      | .inl e => .inl e
      | .inr (_, p2) => hsR N w d (c + 1) p2 σ'
section HPURE
variable {N : Nat} {w : Nat → Nat}
theorem twR_1 {p a b c d : Nat} {e : Nat × Nat} (h : numR N w p a b = .inl e) : twR N w p a b c d = .inl e := by unfold twR; rw [h]
theorem twR_2 {p a b c d x p1 : Nat} {e : Nat × Nat} (h : numR N w p a b = .inr (x, p1)) (h2 : numR N w p1 c d = .inl e) : twR N w p a b c d = .inl e := by
  unfold twR; rw [h]; show (match numR N w p1 c d with | .inl e => _ | .inr (y, p2) => _) = _; rw [h2]
theorem twR_ok {p a b c d x p1 y p2 : Nat} (h : numR N w p a b = .inr (x, p1)) (h2 : numR N w p1 c d = .inr (y, p2)) : twR N w p a b c d = .inr ((x, y), p2) := by
  unfold twR; rw [h]; show (match numR N w p1 c d with | .inl e => _ | .inr (y, p2) => _) = _; rw [h2]
theorem cshR_1 {p F : Nat} {e : Nat × Nat} (h : numR N w p 0 F = .inl e) : cshR N w p F = .inl e := by unfold cshR; rw [h]
theorem cshR_2 {p F x p1 : Nat} {e : Nat × Nat} (h : numR N w p 0 F = .inr (x, p1)) (h2 : numR N w p1 0 F = .inl e) : cshR N w p F = .inl e := by
  unfold cshR; rw [h]; show (match numR N w p1 0 F with | .inl e => _ | .inr (y, p2) => _) = _; rw [h2]
theorem cshR_3 {p F x p1 y p2 : Nat} (h : numR N w p 0 F = .inr (x, p1)) (h2 : numR N w p1 0 F = .inr (y, p2)) (e : x = y) : cshR N w p F = .inl (2, bl N w p1) := by
  unfold cshR; rw [h]; show (match numR N w p1 0 F with | .inl e => _ | .inr (y, p2) => _) = _; rw [h2]; exact if_pos e
theorem cshR_ok {p F x p1 y p2 : Nat} (h : numR N w p 0 F = .inr (x, p1)) (h2 : numR N w p1 0 F = .inr (y, p2)) (e : x ≠ y) : cshR N w p F = .inr ((x, y), p2) := by
  unfold cshR; rw [h]; show (match numR N w p1 0 F with | .inl e => _ | .inr (y, p2) => _) = _; rw [h2]; exact if_neg e
theorem mapR_l {α β : Type} {r : RS α} {g : α → β} {e : Nat × Nat} (h : r = .inl e) : mapR r g = .inl e := by rw [h]; rfl
theorem mapR_r {α β : Type} {r : RS α} {g : α → β} {x : α} {p : Nat} (h : r = .inr (x, p)) : mapR r g = .inr (g x, p) := by rw [h]; rfl
theorem hcR_n {σ : HS} {c p : Nat} (h : kx W3 (wd N w p) 0 = none) : hcR N w σ c p = .inl (1, bl N w p) := by unfold hcR; rw [h]
theorem hcR_3 {σ : HS} {c p i : Nat} (h : kx W3 (wd N w p) 0 = some i) (k : 60 ≤ c ∨ (i = 0 ∧ 8 ≤ σ.1.1) ∨ (i = 2 ∧ 6 ≤ σ.1.2.1)) : hcR N w σ c p = .inl (3, bl N w p) := by unfold hcR; rw [h]; exact if_pos k
theorem hcR_b {σ : HS} {c p i : Nat} (h : kx W3 (wd N w p) 0 = some i) (k : ¬ (60 ≤ c ∨ (i = 0 ∧ 8 ≤ σ.1.1) ∨ (i = 2 ∧ 6 ≤ σ.1.2.1))) : hcR N w σ c p = bodR N w σ i (le N w (bl N w p)) := by unfold hcR; rw [h]; exact if_neg k
theorem hsR_e {d c p : Nat} {σ : HS} (h : bl N w p = N) : hsR N w (d + 1) c p σ = .inr σ := by rw [hsR, if_pos h]
theorem hsR_l {d c p : Nat} {σ : HS} {e : Nat × Nat} (h : bl N w p ≠ N) (h1 : hcR N w σ c (bl N w p) = .inl e) : hsR N w (d + 1) c p σ = .inl e := by rw [hsR, if_neg h, h1]
theorem hsR_s {d c p p1 : Nat} {σ σ' : HS} {e : Nat × Nat} (h : bl N w p ≠ N) (h1 : hcR N w σ c (bl N w p) = .inr (σ', p1)) (h2 : sgnR N w p1 59 = .inl e) : hsR N w (d + 1) c p σ = .inl e := by
  rw [hsR, if_neg h, h1]; show (match sgnR N w p1 59 with | .inl e => _ | .inr (_, p2) => _) = _; rw [h2]
theorem hsR_n {d c p p1 p2 : Nat} {σ σ' : HS} (h : bl N w p ≠ N) (h1 : hcR N w σ c (bl N w p) = .inr (σ', p1)) (h2 : sgnR N w p1 59 = .inr ((), p2)) : hsR N w (d + 1) c p σ = hsR N w d (c + 1) p2 σ' := by
  rw [hsR, if_neg h, h1]; show (match sgnR N w p1 59 with | .inl e => _ | .inr (_, p2) => _) = _; rw [h2]
theorem kx_lt {x : List Nat} : ∀ (L : List (List Nat)) (a i : Nat), kx L x a = some i → a ≤ i ∧ i < a + L.length
  | [], a, i, h => by cases h
  | y :: L, a, i, h => by
    rw [kx] at h
    rw [List.length_cons]
    by_cases c : x = y
    · rw [if_pos c] at h
      injection h with h
      omega
    · rw [if_neg c] at h
      have := kx_lt L (a + 1) i h
      omega
theorem kx3_lt {x : List Nat} {i : Nat} (h : kx W3 x 0 = some i) : i < 4 := by
  have := (kx_lt W3 0 i h).2
  have e : W3.length = 4 := rfl
  omega
end HPURE
section HOUSE
variable {E : MEnv} {B I : II} {T : TT} {Q : QQ} {N : Nat} {w : Nat → Nat}
abbrev LC : List Nat := [1, 9, 10, 11, 12, 13, 14]
theorem tC_fr {J K : II} {p : Nat} (h : tC J N w p) (e1 : K 1 = J 1) (e2 : K 2 = J 2) : tC K N w p := by
  unfold tC cB at h ⊢
  rw [e1, e2]
  exact h
theorem LC1 {I J : II} (h : FR [1] I J) : FR LC I J := h.mono (by decide)
theorem q_feel {p : Nat} {σ : HS} (hv : HV σ) (hF : σ.1.1 < 8) (h : tC I N w p) (hs : hsC I σ) (h1 : ∀ σ' p', bodR N w σ 0 p = .inr (σ', p') → HV σ' → ∀ J, FR LC I J → tC J N w p' → hsC J σ' → Q (.inl none) J T) (h0 : ∀ k q, bodR N w σ 0 p = .inl (k, q) → ∀ J, FR LC I J → fC J N w k q → Q (.inl none) J T) : ev E 46 0 [some (.ref 9), some (.ref 1), none, none] [] I T Q := by
  have eb : bodR N w σ 0 p = mapR (twR N w p 1 21 0 10) (fun x => s0 σ x.1 x.2) := if_pos rfl
  rw [eb] at h1 h0
  refine s_House_readFeeling_0 ?_
  unfold t_House_readFeeling_0 t_House_readFeeling_41
  refine q_num_t (lo := 1) (hi := 21) (by omega) (by omega) h (fun x p1 e1 J1 f1 t1 _ => ?_) (fun k q e1 v J1 f1 g1 => ?_)
  · refine q_num_t (lo := 0) (hi := 10) (by omega) (by omega) t1 (fun y p2 e2 J f2 t2 _ => ?_) (fun k q e2 v J2 f2 g2 => ?_)
    · refine q_isFine_t t2 (bq_f (by decide) ?_)
      have fr := f1.trans f2
      have hs2 : hsC J σ := hs.of (fun c a b => fr c (by simp; omega))
      have e5 : J 9 5 = nI σ.1.1 := hs2.1
      rw [e5, nI_clamp (by omega)]
      refine bq_f (nI_ge (a := σ.1.1) (b := 8) (by omega) (by omega)) ⟨⟨nI_pos (by omega), hF⟩, ?_⟩
      have k1 : (m_up J 10 σ.1.1 (nI x)) 9 5 = nI σ.1.1 := e5
      rw [k1, nI_clamp (by omega)]
      refine ⟨⟨nI_pos (by omega), hF⟩, ?_⟩
      have k2 : (m_up (m_up J 10 σ.1.1 (nI x)) 11 σ.1.1 (nI y)) 9 5 = nI σ.1.1 := e5
      rw [k2, nI_clamp (by omega)]
      refine ⟨⟨nI_pos (by omega), hF⟩, ?_⟩
      have k3 : (m_up (m_up (m_up J 10 σ.1.1 (nI x)) 11 σ.1.1 (nI y)) 12 σ.1.1 0) 9 5 = nI σ.1.1 := e5
      rw [k3, nI_1]
      have bx := numR_in e1
      have by' := numR_in e2
      refine h1 (s0 σ x y) p2 (mapR_r (twR_ok e1 e2)) (HV_0 hv hF (by omega) (by omega)) _ ((((LC1 fr).trans (FR.up (by decide) _ _)).trans (FR.up (by decide) _ _)).trans (FR.up (by decide) _ _) |>.trans (FR.up (by decide) _ _)) (tC_fr t2 rfl rfl) ⟨rfl, hs2.2.1, hs2.2.2.1, fun f hf => ?_, hs2.2.2.2.2⟩
      have hf2 : f < σ.1.1 + 1 := hf
      rw [m_up_ne (show (10 : Nat) ≠ 9 by decide), m_up_ne (show (10 : Nat) ≠ 12 by decide), m_up_ne (show (10 : Nat) ≠ 11 by decide), m_up_at, m_up_ne (show (11 : Nat) ≠ 9 by decide), m_up_ne (show (11 : Nat) ≠ 12 by decide), m_up_at, m_up_ne (show (11 : Nat) ≠ 10 by decide), m_up_ne (show (12 : Nat) ≠ 9 by decide), m_up_at, m_up_ne (show (12 : Nat) ≠ 11 by decide), m_up_ne (show (12 : Nat) ≠ 10 by decide)]
      show _ = nI (uN σ.2.1 σ.1.1 x f) ∧ _ = nI (uN σ.2.2.1 σ.1.1 y f) ∧ _ = nI (σ.2.2.2.1 f)
      by_cases c : f = σ.1.1
      · rw [if_pos c, if_pos c, if_pos c, c, uN_eq, uN_eq, (hv.2.2.2.2.1 σ.1.1).2 (Nat.le_refl _)]
        exact ⟨rfl, rfl, rfl⟩
      · rw [if_neg c, if_neg c, if_neg c, uN_ne c, uN_ne c]
        exact hs2.2.2.2.1 f (by omega)
    · exact q_isFine_f g2 (bq_t rfl (h0 k q (mapR_l (twR_2 e1 e2)) J2 (LC1 (f1.trans f2)) g2))
  · refine q_num_f _ _ g1 (fun v2 J2 f2 g2 => ?_)
    exact q_isFine_f g2 (bq_t rfl (h0 k q (mapR_l (twR_1 e1)) J2 (LC1 (f1.trans f2)) g2))
theorem q_clsh {p : Nat} {σ : HS} (hv : HV σ) (h : tC I N w p) (hs : hsC I σ) (h1 : ∀ σ' p', bodR N w σ 1 p = .inr (σ', p') → HV σ' → ∀ J, FR LC I J → tC J N w p' → hsC J σ' → Q (.inl none) J T) (h0 : ∀ k q, bodR N w σ 1 p = .inl (k, q) → ∀ J, FR LC I J → fC J N w k q → Q (.inl none) J T) : ev E 49 0 [some (.ref 9), some (.ref 1), none, none] [] I T Q := by
  have eb : bodR N w σ 1 p = mapR (cshR N w p σ.1.1) (fun x => s1 σ x.1 x.2) := rfl
  rw [eb] at h1 h0
  have h8 := hv.1
  have en : ∀ {J : II} {k q : Nat} {x2 x3 : Int32}, fC J N w k q → Q (.inl none) J T → t_House_readClash_24 E J T Q x2 x3 := fun f hq => by
    unfold t_House_readClash_24 t_House_readClash_57
    exact q_isFine_f f (bq_t rfl hq)
  refine s_House_readClash_0 ?_
  unfold t_House_readClash_0
  rw [hs.1]
  refine q_num_t (lo := 0) (hi := σ.1.1) (by omega) (by omega) h (fun x p1 e1 J1 f1 t1 _ => ?_) (fun k q e1 v J1 f1 g1 => ?_)
  · have hs1 : hsC J1 σ := hs.of (fun c a b => f1 c (by simp; omega))
    show ev E 47 0 [some (.ref 1), some (.int 0), some (.int (J1 9 5 - 1)), none, none] [] J1 T _
    rw [hs1.1]
    have bx := numR_in e1
    refine q_num_t (lo := 0) (hi := σ.1.1) (by omega) (by omega) t1 (fun y p2 e2 J f2 t2 m2 => ?_) (fun k q e2 v J2 f2 g2 => ?_)
    · have by' := numR_in e2
      have fr := f1.trans f2
      have hs2 : hsC J σ := hs.of (fun c a b => fr c (by simp; omega))
      refine ⟨fun z => ?_, fun z => ?_⟩
      · have z2 : x = y := (nI_eq (by omega) (by omega)).mp z
        rw [m2]
        refine q_fail_t (k := 2) t2 (by omega) (fun J3 f3 g3 => ?_)
        exact en g3 (h0 2 _ (mapR_l (cshR_3 e1 e2 z2)) J3 (LC1 (fr.trans f3)) g3)
      · have z2 : x ≠ y := fun e => z (by rw [e])
        unfold t_House_readClash_24 t_House_readClash_57
        refine q_isFine_t t2 (bq_f (by decide) ?_)
        refine q_within _ _ _ ?_
        rw [show wI (nI x) 0 7 = 1 from wI_n (b := 7) (by omega) (by decide)]
        refine bq_f (by decide) ?_
        refine q_within _ _ _ ?_
        rw [show wI (nI y) 0 7 = 1 from wI_n (b := 7) (by omega) (by decide)]
        refine bq_f (by decide) ?_
        rw [nI_clamp (by omega), nI_clamp (by omega)]
        refine ⟨⟨nI_pos (by omega), by omega⟩, ⟨nI_pos (by omega), by omega⟩, ⟨nI_pos (by omega), by omega⟩, ⟨nI_pos (by omega), by omega⟩, ?_⟩
        have ex := (hs2.2.2.2.1 x (by omega)).2.2
        have ey := (hs2.2.2.2.1 y (by omega)).2.2
        have k1 : (m_up J 12 x (J 12 x ||| (1 : Int32) <<< (nI y &&& 31))) 12 y = nI (σ.2.2.2.1 y) := by rw [m_up_at, if_neg (by omega)]; exact ey
        rw [k1, ex, shl_one ⟨x, by omega⟩, shl_one ⟨y, by omega⟩, fa_or, fa_or]
        refine h1 (s1 σ x y) p2 (mapR_r (cshR_ok e1 e2 z2)) (HV_1 hv (by omega) (by omega)) _ (((LC1 fr).trans (FR.up (by decide) _ _)).trans (FR.up (by decide) _ _)) (tC_fr t2 rfl rfl) ⟨hs2.1, hs2.2.1, hs2.2.2.1, fun f hf => ⟨(hs2.2.2.2.1 f hf).1, (hs2.2.2.2.1 f hf).2.1, ?_⟩, hs2.2.2.2.2⟩
        rw [m_up_at, m_up_at]
        show _ = nI (uN (uN σ.2.2.2.1 x (σ.2.2.2.1 x ||| 2 ^ y)) y (σ.2.2.2.1 y ||| 2 ^ x) f)
        by_cases c : f = y
        · rw [if_pos c, c, uN_eq]
        · rw [if_neg c, uN_ne c]
          by_cases d : f = x
          · rw [if_pos d, d, uN_eq]
          · rw [if_neg d, uN_ne d]
            exact (hs2.2.2.2.1 f hf).2.2
    · have fin := h0 k q (mapR_l (cshR_2 e1 e2)) J2 (LC1 (f1.trans f2)) g2
      exact ⟨fun _ => q_fail_f g2 _ _ (en g2 fin), fun _ => en g2 fin⟩
  · refine q_num_f _ _ g1 (fun v2 J2 f2 g2 => ?_)
    have fin := h0 k q (mapR_l (cshR_1 e1)) J2 (LC1 (f1.trans f2)) g2
    exact ⟨fun _ => q_fail_f g2 _ _ (en g2 fin), fun _ => en g2 fin⟩
theorem q_stg {p : Nat} {σ : HS} (hv : HV σ) (hF : σ.1.2.1 < 6) (h : tC I N w p) (hs : hsC I σ) (h1 : ∀ σ' p', bodR N w σ 2 p = .inr (σ', p') → HV σ' → ∀ J, FR LC I J → tC J N w p' → hsC J σ' → Q (.inl none) J T) (h0 : ∀ k q, bodR N w σ 2 p = .inl (k, q) → ∀ J, FR LC I J → fC J N w k q → Q (.inl none) J T) : ev E 50 0 [some (.ref 9), some (.ref 1), none, none] [] I T Q := by
  have eb : bodR N w σ 2 p = mapR (twR N w p 1 61 0 10) (fun x => s2 σ x.1 x.2) := rfl
  rw [eb] at h1 h0
  refine s_House_readStage_0 ?_
  unfold t_House_readStage_0 t_House_readStage_35
  refine q_num_t (lo := 1) (hi := 61) (by omega) (by omega) h (fun x p1 e1 J1 f1 t1 _ => ?_) (fun k q e1 v J1 f1 g1 => ?_)
  · refine q_num_t (lo := 0) (hi := 10) (by omega) (by omega) t1 (fun y p2 e2 J f2 t2 _ => ?_) (fun k q e2 v J2 f2 g2 => ?_)
    · refine q_isFine_t t2 (bq_f (by decide) ?_)
      have fr := f1.trans f2
      have hs2 : hsC J σ := hs.of (fun c a b => fr c (by simp; omega))
      have e5 : J 9 6 = nI σ.1.2.1 := hs2.2.1
      rw [e5, nI_clamp (by omega)]
      refine bq_f (nI_ge (a := σ.1.2.1) (b := 6) (by omega) (by omega)) ⟨⟨nI_pos (by omega), hF⟩, ?_⟩
      have k1 : (m_up J 13 σ.1.2.1 (nI x)) 9 6 = nI σ.1.2.1 := e5
      rw [k1, nI_clamp (by omega)]
      refine ⟨⟨nI_pos (by omega), hF⟩, ?_⟩
      have k2 : (m_up (m_up J 13 σ.1.2.1 (nI x)) 14 σ.1.2.1 (nI y)) 9 6 = nI σ.1.2.1 := e5
      rw [k2, nI_1]
      have bx := numR_in e1
      have by' := numR_in e2
      refine h1 (s2 σ x y) p2 (mapR_r (twR_ok e1 e2)) (HV_2 hv hF (by omega) (by omega) (by omega)) _ ((((LC1 fr).trans (FR.up (by decide) _ _)).trans (FR.up (by decide) _ _)).trans (FR.up (by decide) _ _)) (tC_fr t2 rfl rfl) ⟨hs2.1, rfl, hs2.2.2.1, hs2.2.2.2.1, fun f hf => ?_⟩
      have hf2 : f < σ.1.2.1 + 1 := hf
      rw [m_up_ne (show (13 : Nat) ≠ 9 by decide), m_up_ne (show (13 : Nat) ≠ 14 by decide), m_up_at, m_up_ne (show (14 : Nat) ≠ 9 by decide), m_up_at, m_up_ne (show (14 : Nat) ≠ 13 by decide)]
      show _ = nI (uN σ.2.2.2.2.1 σ.1.2.1 x f) ∧ _ = nI (uN σ.2.2.2.2.2 σ.1.2.1 y f)
      by_cases c : f = σ.1.2.1
      · rw [if_pos c, if_pos c, c, uN_eq, uN_eq]
        exact ⟨rfl, rfl⟩
      · rw [if_neg c, if_neg c, uN_ne c, uN_ne c]
        exact hs2.2.2.2.2 f (by omega)
    · exact q_isFine_f g2 (bq_t rfl (h0 k q (mapR_l (twR_2 e1 e2)) J2 (LC1 (f1.trans f2)) g2))
  · refine q_num_f _ _ g1 (fun v2 J2 f2 g2 => ?_)
    exact q_isFine_f g2 (bq_t rfl (h0 k q (mapR_l (twR_1 e1)) J2 (LC1 (f1.trans f2)) g2))
theorem q_cl25_f {J : II} {k q : Nat} {x3 : Int32} (f : fC J N w k q) (hq : Q (.inl none) J T) : t_House_readClause_25 E J T Q x3 := by
  unfold t_House_readClause_25
  exact q_isFine_f f (bq_t rfl hq)
theorem q_cl20_f {J : II} {k q : Nat} {x3 : Int32} (f : fC J N w k q) (hq : Q (.inl none) J T) : t_House_readClause_20 E J T Q x3 := by
  unfold t_House_readClause_20
  exact q_fail_f f _ _ (q_cl25_f f hq)
theorem q_cl13_f {J : II} {k q : Nat} {x3 : Int32} (f : fC J N w k q) (hq : Q (.inl none) J T) : t_House_readClause_13 E J T Q x3 := by
  unfold t_House_readClause_13
  exact ⟨fun _ => ⟨fun _ => q_cl25_f f hq, fun _ => q_cl20_f f hq⟩, fun _ => q_cl25_f f hq⟩
theorem q_clause {p c : Nat} {σ : HS} (hc : c ≤ 60) (hv : HV σ) (h : tC I N w p) (hs : hsC I σ) (h1 : ∀ σ' p', hcR N w σ c p = .inr (σ', p') → c < 60 → HV σ' → ∀ J, FR LC I J → tC J N w p' → hsC J σ' → Q (.inl none) J T) (h0 : ∀ k q, hcR N w σ c p = .inl (k, q) → ∀ J, FR LC I J → fC J N w k q → Q (.inl none) J T) : ev E 33 0 [some (.ref 9), some (.ref 1), some (.int (nI c)), none] [] I T Q := by
  have h8 := hv.1
  have h6 := hv.2.1
  refine s_House_readClause_0 ?_
  unfold t_House_readClause_0
  refine q_wd3_t h (fun i ei J fr t m => ?_) (fun en J fr g => ?_)
  · have i4 := kx3_lt ei
    have hsJ : hsC J σ := hs.of (fun c a b => fr c (by simp; omega))
    have e3 : 60 ≤ c ∨ (i = 0 ∧ 8 ≤ σ.1.1) ∨ (i = 2 ∧ 6 ≤ σ.1.2.1) → t_House_readClause_20 E J T Q (nI i) := fun z => by
      unfold t_House_readClause_20
      rw [m]
      refine q_fail_t (k := 3) t (by omega) (fun J2 f2 g2 => ?_)
      exact q_cl25_f g2 (h0 3 _ (hcR_3 ei z) J2 (LC1 (fr.trans f2)) g2)
    refine ⟨fun z => e3 (Or.inl (nI_le_iff (a := 60) (b := c) (by omega) (by omega) |>.mp z)), fun z => ?_⟩
    have z1 : c < 60 := Nat.lt_of_not_le (fun q => z (nI_le (a := 60) (b := c) q (by omega)))
    have go : ¬ (60 ≤ c ∨ (i = 0 ∧ 8 ≤ σ.1.1) ∨ (i = 2 ∧ 6 ≤ σ.1.2.1)) → t_House_readClause_25 E J T Q (nI i) := fun nz => by
      have hb := hcR_b ei nz
      rw [hb] at h1 h0
      unfold t_House_readClause_25 t_House_readClause_55
      refine q_isFine_t t (bq_f (by decide) ?_)
      match i, i4 with
      | 0, _ => exact bq_t rfl (q_feel hv (by omega) t hsJ (fun σ' p' e v K f t s => h1 σ' p' e z1 v K ((LC1 fr).trans f) t s) (fun k q e K f g => h0 k q e K ((LC1 fr).trans f) g))
      | 1, _ => exact bq_f (by decide) (bq_t rfl (q_clsh hv t hsJ (fun σ' p' e v K f t s => h1 σ' p' e z1 v K ((LC1 fr).trans f) t s) (fun k q e K f g => h0 k q e K ((LC1 fr).trans f) g)))
      | 2, _ => exact bq_f (by decide) (bq_f (by decide) (bq_t rfl (q_stg hv (by omega) t hsJ (fun σ' p' e v K f t s => h1 σ' p' e z1 v K ((LC1 fr).trans f) t s) (fun k q e K f g => h0 k q e K ((LC1 fr).trans f) g))))
      | 3, _ =>
        refine bq_f (by decide) (bq_f (by decide) (bq_f (by decide) ?_))
        have eb : bodR N w σ 3 (le N w (bl N w p)) = mapR (numR N w (le N w (bl N w p)) 1 41) (fun x => s3 σ x) := rfl
        rw [eb] at h1 h0
        refine q_num_t (lo := 1) (hi := 41) (by omega) (by omega) t (fun x p1 e1 J1 f1 t1 _ => ?_) (fun k q e1 v J1 f1 g1 => ?_)
        · have bx := numR_in e1
          have hs1 : hsC J1 σ := hsJ.of (fun c a b => f1 c (by simp; omega))
          exact h1 (s3 σ x) p1 (mapR_r e1) z1 (HV_3 hv (by omega)) _ ((LC1 (fr.trans f1)).trans (FR.up (by decide) _ _)) (tC_fr t1 rfl rfl) ⟨hs1.1, hs1.2.1, rfl, hs1.2.2.2⟩
        · exact h0 k q (mapR_l e1) _ ((LC1 (fr.trans f1)).trans (FR.up (by decide) _ _)) (fC_up (by decide) (by decide) g1)
    have c13 : ¬ (i = 0 ∧ 8 ≤ σ.1.1) → t_House_readClause_13 E J T Q (nI i) := fun y => by
      unfold t_House_readClause_13
      rw [hsJ.2.1]
      refine ⟨fun a => ?_, fun a => go (by rintro (q | q | q); · omega
                                           · exact y q
                                           · exact a (by rw [q.1]; rfl))⟩
      have i2 : i = 2 := (nI_eq (a := i) (b := 2) (by omega) (by omega)).mp a
      refine ⟨fun b => go ?_, fun b => e3 (Or.inr (Or.inr ⟨i2, ?_⟩))⟩
      · have b2 : σ.1.2.1 < 6 := (nI_lt_iff (a := σ.1.2.1) (b := 6) (by omega) (by omega)).mp b
        rintro (q | q | q)
        · omega
        · omega
        · omega
      · exact Nat.le_of_not_lt (fun q => b (nI_lt (a := σ.1.2.1) (b := 6) q (by omega)))
    rw [hsJ.1]
    refine ⟨fun a => ⟨fun b => e3 (Or.inr (Or.inl ⟨(nI_eq (a := i) (b := 0) (by omega) (by omega)).mp a, nI_le_iff (a := 8) (b := σ.1.1) (by omega) (by omega) |>.mp b⟩)), fun b => c13 (fun q => b (nI_le (a := 8) (b := σ.1.1) q.2 (by omega)))⟩, fun a => c13 (fun q => a (by rw [q.1]; rfl))⟩
  · have fin := h0 1 _ (hcR_n en) J (LC1 fr) g
    exact ⟨fun _ => q_cl20_f g fin, fun _ => ⟨fun _ => ⟨fun _ => q_cl20_f g fin, fun _ => q_cl13_f g fin⟩, fun _ => q_cl13_f g fin⟩⟩
theorem q_hr_f {J : II} {k q : Nat} {x2 : Int32} (f : fC J N w k q) (hq : Q (.inl none) J T) : t_House_read_11 E J T Q x2 := by
  unfold t_House_read_11 t_House_read_30
  exact ⟨fun _ => hq, fun _ => q_isFine_f f (bq_t rfl hq)⟩
theorem l_hr : ∀ (d c p : Nat) (σ : HS) (J : II), d + c = 61 → HV σ → tC J N w p → hsC J σ → FR LC I J → (∀ σ', hsR N w d c p σ = .inr σ' → HV σ' → ∀ p' K, FR LC I K → tC K N w p' → hsC K σ' → Q (.inl none) K T) → (∀ k q, hsR N w d c p σ = .inl (k, q) → ∀ K, FR LC I K → fC K N w k q → Q (.inl none) K T) → c ≤ 60 → t_House_read_11 E J T Q (nI c)
  | 0, c, p, σ, J, hd, _, _, _, _, _, _, hc => absurd hd (by omega)
  | d + 1, c, p, σ, J, hd, hv, t, hs, fr, h1, h0, hc => by
    have hb := bl_le (w := w) t.2.1
    unfold t_House_read_11
    refine bq_f (show ¬ (60 : Int32) < nI c from nI_nlt (a := 60) (b := c) (by omega) (by omega)) ?_
    refine q_isFine_t t (bq_f (by decide) ?_)
    refine q_peekP t.1 t.2.1 t.2.2.1 ?_
    have tb := tC_at t hb.2
    have frb : FR LC I (m_up J 1 3 (nI (bl N w p))) := fr.trans (FR.up (by decide) _ _)
    by_cases z : bl N w p = N
    · refine bq_t ((cv_m1 hb.2 (fun z => (t.1.2.2.2 _ z).1)).mpr z) ?_
      unfold t_House_read_30
      exact h1 σ (hsR_e z) hv _ _ frb tb hs
    · refine bq_f (fun y => z ((cv_m1 hb.2 (fun z => (t.1.2.2.2 _ z).1)).mp y)) ?_
      refine q_clause hc hv tb hs (fun σ' p1 e1 c6 hv1 J1 f1 t1 hs1 => ?_) (fun k q e1 J1 f1 g1 => ?_)
      · refine q_sign_t (c := 59) (by omega) t1 (fun p2 e2 J2 f2 t2 => ?_) (fun k q e2 J2 f2 g2 => ?_)
        · show ev E 30 11 [some (.ref 9), some (.ref 1), some (.int (nI c + 1))] [] J2 T Q
          rw [nI_1]
          rw [hsR_n z e1 e2] at h1 h0
          exact s_House_read_11 (l_hr d (c + 1) p2 σ' J2 (by omega) hv1 t2 (hs1.of (fun c a b => f2 c (by simp; omega))) ((frb.trans f1).trans (LC1 f2)) h1 h0 (by omega))
        · exact s_House_read_11 (q_hr_f g2 (h0 k q (hsR_s z e1 e2) J2 ((frb.trans f1).trans (LC1 f2)) g2))
      · refine q_sign_f _ g1 (fun J2 f2 g2 => ?_)
        exact s_House_read_11 (q_hr_f g2 (h0 k q (hsR_l z e1) J2 ((frb.trans f1).trans (LC1 f2)) g2))
def hs0 : HS := ((0, 0, 12), fun _ => 0, fun _ => 0, fun _ => 0, fun _ => 0, fun _ => 0)
theorem HV_z : HV hs0 := ⟨by decide, by decide, by decide, fun f hf => absurd hf (Nat.not_lt_zero _), fun f => ⟨by show 0 < 256; omega, fun _ => rfl⟩, fun s hs => absurd hs (Nat.not_lt_zero _)⟩
theorem q_hRead (h : tC I N w 0) (h1 : ∀ σ, hsR N w 61 0 0 hs0 = .inr σ → HV σ → ∀ p' K, FR LC I K → tC K N w p' → hsC K σ → Q (.inl none) K T) (h0 : ∀ k q, hsR N w 61 0 0 hs0 = .inl (k, q) → ∀ K, FR LC I K → fC K N w k q → Q (.inl none) K T) : ev E 30 0 [some (.ref 9), some (.ref 1), none] [] I T Q := by
  refine s_House_read_0 ?_
  unfold t_House_read_0
  exact l_hr (I := I) 61 0 0 hs0 _ rfl HV_z (tC_fr h rfl rfl) ⟨rfl, rfl, rfl, fun f hf => absurd hf (Nat.not_lt_zero _), fun s hs => absurd hs (Nat.not_lt_zero _)⟩ (((FR.up (by decide) _ _).trans (FR.up (by decide) _ _)).trans (FR.up (by decide) _ _)) h1 h0 (by omega)
end HOUSE
