/-! ===== stalls ===== -/
def lp {α : Type} (t : Nat → Option α) : Nat → Nat → Option α
  | 0, _ => none
  | d + 1, b => match t b with
    | some x => some x
    | none => lp t d (b + 1)
theorem lp_S1 {α : Type} {t : Nat → Option α} {d b : Nat} {x : α} (h : t b = some x) : lp t (d + 1) b = some x := by
  rw [lp, h]
theorem lp_S0 {α : Type} {t : Nat → Option α} {d b : Nat} (h : t b = none) : lp t (d + 1) b = lp t d (b + 1) := by
  rw [lp, h]
theorem lp_none {α : Type} {t : Nat → Option α} : ∀ (d b : Nat), lp t d b = none ↔ ∀ c, b ≤ c → c < b + d → t c = none
  | 0, b => ⟨fun _ c h1 h2 => by omega, fun _ => rfl⟩
  | d + 1, b => by
    cases h : t b with
    | none =>
      rw [lp_S0 h, lp_none d (b + 1)]
      constructor
      · intro k c h1 h2
        by_cases e : c = b
        · subst e; exact h
        · exact k c (by omega) (by omega)
      · intro k c h1 h2
        exact k c (by omega) (by omega)
    | some x =>
      rw [lp_S1 h]
      constructor
      · intro k; cases k
      · intro k
        have := k b (Nat.le_refl _) (by omega)
        rw [h] at this; cases this
theorem lp_some {α : Type} {t : Nat → Option α} {x : α} : ∀ (d b : Nat), lp t d b = some x → ∃ c, b ≤ c ∧ c < b + d ∧ t c = some x
  | 0, b, h => by cases h
  | d + 1, b, h => by
    cases k : t b with
    | none =>
      rw [lp_S0 k] at h
      obtain ⟨c, a1, a2, a3⟩ := lp_some d (b + 1) h
      exact ⟨c, by omega, by omega, a3⟩
    | some y =>
      rw [lp_S1 k] at h
      exact ⟨b, Nat.le_refl _, by omega, by rw [k]; exact h⟩
theorem lp_cut {α : Type} {t : Nat → Option α} : ∀ (d1 d2 b : Nat), d1 ≤ d2 → (∀ c, b + d1 ≤ c → c < b + d2 → t c = none) → lp t d2 b = lp t d1 b
  | 0, d2, b, _, h => by
    have : lp t d2 b = none := (lp_none d2 b).mpr (fun c h1 h2 => h c (by omega) h2)
    rw [this]; rfl
  | d1 + 1, 0, b, h1, _ => by omega
  | d1 + 1, d2 + 1, b, h1, h => by
    cases k : t b with
    | none => rw [lp_S0 k, lp_S0 k]; exact lp_cut d1 d2 (b + 1) (by omega) (fun c a1 a2 => h c (by omega) (by omega))
    | some x => rw [lp_S1 k, lp_S1 k]
def updN (g : Nat → Nat) (f b : Nat) : Nat → Nat := fun e => if e = f then b else g e
/-- who clash -/
def bfo (B : II) (f e : Nat) : Prop := ((B 6 f >>> (nI e &&& 31)) &&& 1) = 1
def pcP (B : II) (g : Nat → Nat) (f b : Nat) : Prop := ∀ e, e < f → ¬ (g e = b ∧ bfo B f e)
noncomputable def smB (B : II) (many : Nat) : Nat → Nat → (Nat → Nat) → Option (Nat → Nat)
  | 0, _, g => some g
  | k + 1, f, g => lp (fun b => by classical exact if pcP B g f b then smB B many k (f + 1) (updN g f b) else none) many 0
theorem smB_S (B : II) (many k f : Nat) (g : Nat → Nat) : smB B many (k + 1) f g = lp (fun b => by classical exact if pcP B g f b then smB B many k (f + 1) (updN g f b) else none) many 0 := rfl
noncomputable def tyB (B : II) (many k f : Nat) (g : Nat → Nat) (b : Nat) : Option (Nat → Nat) := by classical exact if pcP B g f b then smB B many k (f + 1) (updN g f b) else none
theorem smB_T (B : II) (many k f : Nat) (g : Nat → Nat) : smB B many (k + 1) f g = lp (tyB B many k f g) many 0 := rfl
theorem tyB_y {B : II} {many k f : Nat} {g : Nat → Nat} {b : Nat} (h : pcP B g f b) : tyB B many k f g b = smB B many k (f + 1) (updN g f b) := by unfold tyB; rw [if_pos h]
theorem tyB_n {B : II} {many k f : Nat} {g : Nat → Nat} {b : Nat} (h : ¬ pcP B g f b) : tyB B many k f g b = none := by unfold tyB; rw [if_neg h]
/-- a way to go on -/
def extB (B : II) (many k f : Nat) (g : Nat → Nat) : Prop := ∃ h : Nat → Nat, (∀ e, e < f → h e = g e) ∧ (∀ e, f ≤ e → e < f + k → h e < many) ∧ ∀ e, f ≤ e → e < f + k → ∀ d, d < e → ¬ (h d = h e ∧ bfo B e d)
theorem sm_ext {B : II} {many : Nat} : ∀ (k f : Nat) (g : Nat → Nat), (∃ h, smB B many k f g = some h) ↔ extB B many k f g
  | 0, f, g => ⟨fun _ => ⟨g, fun _ _ => rfl, fun e h1 h2 => by omega, fun e h1 h2 => by omega⟩, fun _ => ⟨g, rfl⟩⟩
  | k + 1, f, g => by
    constructor
    · rintro ⟨h, hh⟩
      rw [smB_T] at hh
      obtain ⟨b, -, hb, ht⟩ := lp_some _ _ hh
      by_cases c : pcP B g f b
      · rw [tyB_y c] at ht
        obtain ⟨w, w1, w2, w3⟩ := (sm_ext k (f + 1) (updN g f b)).mp ⟨h, ht⟩
        have wf : w f = b := by rw [w1 f (by omega)]; exact if_pos rfl
        have wl : ∀ e, e < f → w e = g e := fun e he => by rw [w1 e (by omega)]; exact if_neg (by omega)
        refine ⟨w, wl, fun e h1 h2 => ?_, fun e h1 h2 d hd => ?_⟩
        · by_cases e0 : e = f
          · subst e0; rw [wf]; omega
          · exact w2 e (by omega) (by omega)
        · by_cases e0 : e = f
          · subst e0
            rw [wf, wl d hd]
            exact c d hd
          · exact w3 e (by omega) (by omega) d hd
      · rw [tyB_n c] at ht; cases ht
    · rintro ⟨w, w1, w2, w3⟩
      have c : pcP B g f (w f) := fun e he z => w3 f (Nat.le_refl _) (by omega) e he ⟨by rw [w1 e he]; exact z.1, z.2⟩
      have hx : extB B many k (f + 1) (updN g f (w f)) := by
        refine ⟨w, fun e he => ?_, fun e h1 h2 => w2 e (by omega) (by omega), fun e h1 h2 d hd => w3 e (by omega) (by omega) d hd⟩
        unfold updN
        by_cases e0 : e = f
        · rw [if_pos e0, e0]
        · rw [if_neg e0]; exact w1 e (by omega)
      obtain ⟨h, hh⟩ := (sm_ext k (f + 1) (updN g f (w f))).mpr hx
      rw [smB_T]
      cases q : lp (tyB B many k f g) many 0 with
      | some x => exact ⟨x, rfl⟩
      | none =>
        have := (lp_none many 0).mp q (w f) (Nat.zero_le _) (by have := w2 f (Nat.le_refl _) (by omega); omega)
        rw [tyB_y c, hh] at this; cases this
def tau (a b x : Nat) : Nat := if x = a then b else if x = b then a else x
theorem tau_inj {a b x y : Nat} (h : tau a b x = tau a b y) : x = y := by
  unfold tau at h
  split at h <;> split at h <;> (try split at h) <;> (try split at h) <;> omega
theorem tau_lt {a b x m : Nat} (ha : a < m) (hb : b < m) (hx : x < m) : tau a b x < m := by
  unfold tau
  split
  · exact hb
  · split
    · exact ha
    · exact hx
theorem ext_sym {B : II} {many k f u b1 b2 : Nat} {g : Nat → Nat} (hg : ∀ e, e < f → g e < u) (h1 : u ≤ b1) (h2 : u ≤ b2) (m1 : b1 < many) (m2 : b2 < many) (h : extB B many k (f + 1) (updN g f b1)) : extB B many k (f + 1) (updN g f b2) := by
  obtain ⟨w, w1, w2, w3⟩ := h
  refine ⟨fun e => tau b1 b2 (w e), fun e he => ?_, fun e a b => tau_lt m1 m2 (w2 e a b), fun e a b d hd z => w3 e a b d hd ⟨tau_inj z.1, z.2⟩⟩
  show tau b1 b2 (w e) = updN g f b2 e
  rw [w1 e he]
  unfold updN
  by_cases e0 : e = f
  · rw [if_pos e0, if_pos e0]
    unfold tau; rw [if_pos rfl]
  · rw [if_neg e0, if_neg e0]
    have := hg e (by omega)
    unfold tau
    rw [if_neg (by omega), if_neg (by omega)]
theorem pc_new {B : II} {f u b : Nat} {g : Nat → Nat} (hg : ∀ e, e < f → g e < u) (h : u ≤ b) : pcP B g f b := fun e he z => by
  have := hg e he
  omega
/-- stalls beyond the first empty one are but other names -/
theorem sm_cut {B : II} {many k f u : Nat} {g : Nat → Nat} (hg : ∀ e, e < f → g e < u) : smB B many (k + 1) f g = lp (tyB B many k f g) (min many (u + 1)) 0 := by
  rw [smB_T]
  by_cases c : many ≤ u + 1
  · rw [Nat.min_eq_left c]
  · rw [Nat.min_eq_right (by omega)]
    cases q : lp (tyB B many k f g) (u + 1) 0 with
    | none =>
      have hu := (lp_none (u + 1) 0).mp q u (Nat.zero_le _) (by omega)
      rw [tyB_y (pc_new hg (Nat.le_refl _))] at hu
      rw [lp_none]
      intro b _ hb
      by_cases hbu : b < u + 1
      · exact (lp_none (u + 1) 0).mp q b (Nat.zero_le _) (by omega)
      · rw [tyB_y (pc_new hg (by omega))]
        cases r : smB B many k (f + 1) (updN g f b) with
        | none => rfl
        | some x =>
          have h1 := (sm_ext k (f + 1) (updN g f b)).mp ⟨x, r⟩
          obtain ⟨y, hy⟩ := (sm_ext k (f + 1) (updN g f u)).mpr (ext_sym hg (by omega) (Nat.le_refl _) (by omega) (by omega) h1)
          rw [hu] at hy; cases hy
    | some x =>
      obtain ⟨b, a1, a2, a3⟩ := lp_some _ _ q
      -- the first that goes is among these
      have hsplit : ∀ (d1 d2 b : Nat), d1 ≤ d2 → ∀ x, lp (tyB B many k f g) d1 b = some x → lp (tyB B many k f g) d2 b = some x := by
        intro d1
        induction d1 with
        | zero => intro d2 b _ x h; cases h
        | succ d1 ih =>
          intro d2 b hd x h
          match d2, hd with
          | d2 + 1, hd =>
            cases t : tyB B many k f g b with
            | none => rw [lp_S0 t] at h ⊢; exact ih d2 (b + 1) (by omega) x h
            | some y => rw [lp_S1 t] at h ⊢; exact h
      exact hsplit (u + 1) many 0 (by omega) x q
/-- the least number of stalls, and the first way -/
noncomputable def stA (B : II) (F : Nat) : Nat → Nat → Nat × (Nat → Nat)
  | 0, m => (m, (smB B m F 0 (fun _ => 0)).getD (fun _ => 0))
  | d + 1, m => match smB B m F 0 (fun _ => 0) with
    | some h => (m, h)
    | none => stA B F d (m + 1)
theorem sm_8 {B : II} {F : Nat} (hF : F ≤ 8) : ∃ h, smB B 8 F 0 (fun _ => 0) = some h :=
  (sm_ext F 0 _).mpr ⟨fun e => e, fun e he => by omega, fun e _ he => by show e < 8; omega, fun e _ _ d hd z => by
    have : d = e := z.1
    omega⟩
section STL
variable {E : MEnv} {B I : II} {T : TT} {Q : QQ} {F S n : Nat} {cd : Nat → Nat × Int32}
theorem l_peace (hC : Core B F S n cd) (h : ro B I) {f b : Nat} {g : Nat → Nat} (hf : f < F) (hb : b ≤ 8) (hg8 : ∀ e, e < f → g e ≤ 8) (hg : ∀ e, e < f → I 43 e = nI (g e)) (h1 : pcP B g f b → Q (.inl (some (.int 1))) I T) (h0 : ¬ pcP B g f b → Q (.inl (some (.int 0))) I T) : ∀ (d e : Nat), e + d = f → (∀ k, k < e → ¬ (g k = b ∧ bfo B f k)) → t_Stable_isPeaceful_3_2 E I T Q (nI f) (nI b) (nI e)
  | 0, e, he, hp => by
    have h8 := hC.F8
    unfold t_Stable_isPeaceful_3_2 t_Stable_isPeaceful_3_27
    exact bq_t (nI_le (by omega) (by omega)) (h1 (fun k hk => hp k (by omega)))
  | d + 1, e, he, hp => by
    have h8 := hC.F8
    have := hg8 e (by omega)
    unfold t_Stable_isPeaceful_3_2 t_Stable_isPeaceful_3_25 t_Stable_isPeaceful_3_27
    refine bq_f (nI_ge (by omega) (by omega)) (bq_f (nI_ge (a := e) (b := 8) (by omega) (by omega)) ⟨gix (by omega) (by omega), ?_⟩)
    rw [nI_clamp (by omega), hg e (by omega), nI_1]
    have next : ¬ (g e = b ∧ bfo B f e) → ev E 235 2 [some (.ref 42), some (.ref 3), some (.int (nI f)), some (.int (nI b)), some (.int (nI (e + 1)))] [] I T Q := fun z =>
      s_Stable_isPeaceful_3_2 (l_peace hC h hf hb hg8 hg h1 h0 d (e + 1) (by omega) (fun k hk => by
        by_cases q : k = e
        · subst q; exact z
        · exact hp k (by omega)))
    refine ⟨fun c => ?_, fun c => next (fun z => c (by rw [z.1]))⟩
    have c2 : g e = b := (nI_eq (by omega) (by omega)).mp c
    refine q_foes hC h hf ?_
    exact ⟨fun k => h0 (fun z => z e (by omega) ⟨c2, k⟩), fun k => next (fun z => k z.2)⟩
def cfP (B : II) (F S n : Nat) (cd : Nat → Nat × Int32) (many : Nat) (T : TT) (X : Nat × (Nat → Int32)) (k : Nat) : Prop := ∀ (e f u : Nat) (g : Nat → Nat) (I : II) (Q : QQ), k ≤ e → f + k = F → ro B I → (∀ i, i < f → I 43 i = nI (g i)) → (∀ i, i < f → g i < u) → u ≤ f → (∀ J h, ro B J → (∀ i, i < F → J 43 i = nI (h i)) → smB B many k f g = some h → Q (.inl (some (.int 1))) J T) → (∀ J, ro B J → (∀ i, i < f → J 43 i = nI (g i)) → smB B many k f g = none → Q (.inl (some (.int 0))) J T) → ev (e + 1, X) 234 0 [some (.ref 42), some (.ref 3), some (.int (nI f)), some (.int (nI many)), some (.int (nI u)), none] [] I T Q
theorem cf_loop (hC : Core B F S n cd) {many k : Nat} (hm : many ≤ 8) {X : Nat × (Nat → Int32)} (ih : cfP B F S n cd many T X k) {e f u : Nat} (he : k + 1 ≤ e) (hfk : f + (k + 1) = F) {g : Nat → Nat} (hu : ∀ i, i < f → g i < u) (huf : u ≤ f) : ∀ (d b : Nat) (I : II), ro B I → (∀ i, i < f → I 43 i = nI (g i)) → b + d = min many (u + 1) → (∀ J h, ro B J → (∀ i, i < F → J 43 i = nI (h i)) → lp (tyB B many k f g) d b = some h → Q (.inl (some (.int 1))) J T) → (∀ J, ro B J → (∀ i, i < f → J 43 i = nI (g i)) → lp (tyB B many k f g) d b = none → Q (.inl (some (.int 0))) J T) → t_Stable_canFillFrom_3_8 e X I T Q (nI f) (nI many) (nI u) (nI b)
  | 0, b, I, h, hg, hb, q1, q0 => by
    have h8 := hC.F8
    unfold t_Stable_canFillFrom_3_8 t_Stable_canFillFrom_3_42
    by_cases c : many ≤ b
    · exact bq_t (nI_le c (by omega)) (q0 I h hg rfl)
    · exact bq_f (nI_ge (by omega) (by omega)) (bq_t (nI_lt (a := u) (b := b) (by omega) (by omega)) (q0 I h hg rfl))
  | d + 1, b, I, h, hg, hb, q1, q0 => by
    have h8 := hC.F8
    unfold t_Stable_canFillFrom_3_8 t_Stable_canFillFrom_3_40
    refine bq_f (nI_ge (by omega) (by omega)) (bq_f (nI_nlt (by omega) (by omega)) ?_)
    rw [nI_1 b, nI_1 f, nI_clamp (show f < 2 ^ 31 by omega)]
    refine s_Stable_isPeaceful_3_0 (l_peace hC h (by omega) (by omega) (fun i hi => by have := hu i hi; omega) hg (fun c => ?_) (fun c => ?_) f 0 (by omega) (fun k hk => by omega))
    · refine bq_f (by decide) ⟨⟨nI_pos (by omega), by omega⟩, ?_⟩
      have e2 : (if nI u < nI (b + 1) then nI (b + 1) else nI u) = nI (if u < b + 1 then b + 1 else u) := by
        by_cases y : u < b + 1
        · rw [if_pos y, if_pos (nI_lt y (by omega))]
        · rw [if_neg y, if_neg (nI_nlt (by omega) (by omega))]
      rw [e2]
      obtain ⟨e', rfl⟩ : ∃ e', e = e' + 1 := ⟨e - 1, by omega⟩
      refine ih e' (f + 1) (if u < b + 1 then b + 1 else u) (updN g f b) _ _ (by omega) (by omega) (h.trans (ro_up I (by decide) _ _)) (fun i hi => ?_) (fun i hi => ?_) (by split <;> omega) (fun J w hJ hj hs => ?_) (fun J hJ hj hs => ?_)
      · rw [m_up_at]
        unfold updN
        by_cases z : i = f
        · rw [if_pos z, if_pos z]
        · rw [if_neg z, if_neg z]; exact hg i (by omega)
      · unfold updN
        by_cases z : i = f
        · rw [if_pos z]; split <;> omega
        · rw [if_neg z]
          have := hu i (by omega)
          split <;> omega
      · exact bq_f (by decide) (q1 J w hJ hj (lp_S1 (by rw [tyB_y c]; exact hs)))
      · have ht : tyB B many k f g b = none := by rw [tyB_y c]; exact hs
        refine bq_t rfl (s_Stable_canFillFrom_3_8 (cf_loop hC hm ih he hfk hu huf d (b + 1) J hJ (fun i hi => ?_) (by omega) (fun K w hK hk y => q1 K w hK hk (by rw [lp_S0 ht]; exact y)) (fun K hK hk y => q0 K hK hk (by rw [lp_S0 ht]; exact y))))
        rw [hj i (by omega)]
        unfold updN
        rw [if_neg (by omega)]
    · have ht : tyB B many k f g b = none := tyB_n c
      exact bq_t rfl (s_Stable_canFillFrom_3_8 (cf_loop hC hm ih he hfk hu huf d (b + 1) I h hg (by omega) (fun K w hK hk y => q1 K w hK hk (by rw [lp_S0 ht]; exact y)) (fun K hK hk y => q0 K hK hk (by rw [lp_S0 ht]; exact y))))
theorem cf_all (hC : Core B F S n cd) {many : Nat} (hm : many ≤ 8) {X : Nat × (Nat → Int32)} : ∀ k, cfP B F S n cd many T X k
  | 0 => by
    intro e f u g I Q he hf h hg hu huf q1 q0
    have h8 := hC.F8
    refine s_Stable_canFillFrom_3_0 ?_
    unfold t_Stable_canFillFrom_3_0
    refine p_isFeeling (hC.1.ro h) (by omega) ?_
    rw [if_neg (by omega)]
    exact bq_t rfl (q1 I g h (fun i hi => hg i (by omega)) rfl)
  | k + 1 => by
    intro e f u g I Q he hf h hg hu huf q1 q0
    have h8 := hC.F8
    refine s_Stable_canFillFrom_3_0 ?_
    unfold t_Stable_canFillFrom_3_0
    refine p_isFeeling (hC.1.ro h) (by omega) ?_
    rw [if_pos (by omega)]
    refine bq_f (by decide) ?_
    rw [sm_cut hu] at q1 q0
    exact cf_loop hC hm (cf_all hC hm k) he hf hu huf (min many (u + 1)) 0 I h hg (by omega) q1 q0
theorem stA_y {B : II} {F d m : Nat} {h : Nat → Nat} (k : smB B m F 0 (fun _ => 0) = some h) : stA B F d m = (m, h) := by
  cases d with
  | zero => unfold stA; rw [k]; rfl
  | succ d => unfold stA; rw [k]
theorem stA_n {B : II} {F d m : Nat} (k : smB B m F 0 (fun _ => 0) = none) : stA B F (d + 1) m = stA B F d (m + 1) := by
  rw [stA, k]
theorem l_fill (hC : Core B F S n cd) {e : Nat} {X : Nat × (Nat → Int32)} (he : 8 ≤ e) : ∀ (d m : Nat) (I : II), ro B I → m + d = 8 → (∀ J, ro B J → (∀ i, i < F → J 43 i = nI ((stA B F d m).2 i)) → Q (.inl (some (.int (nI (stA B F d m).1)))) J T) → t_Stable_fill_3_2 (e + 1, X) I T Q (nI m)
  | 0, m, I, h, hm, hq => by
    have h8 := hC.F8
    have e8 : m = 8 := by omega
    subst e8
    unfold t_Stable_fill_3_2
    refine bq_f (by decide) ?_
    refine cf_all hC (by omega) F e 0 0 (fun _ => 0) I _ (by omega) (by omega) h (fun i hi => by omega) (fun i hi => by omega) (by omega) (fun J w hJ hj hs => ?_) (fun J hJ _ hs => ?_)
    · rw [stA_y hs] at hq
      exact bq_f (by decide) (hq J hJ hj)
    · obtain ⟨w, hw⟩ := sm_8 (B := B) h8
      rw [hs] at hw; cases hw
  | d + 1, m, I, h, hm, hq => by
    have h8 := hC.F8
    unfold t_Stable_fill_3_2
    refine bq_f (nI_nlt (a := 8) (b := m) (by omega) (by omega)) ?_
    refine cf_all hC (by omega) F e 0 0 (fun _ => 0) I _ (by omega) (by omega) h (fun i hi => by omega) (fun i hi => by omega) (by omega) (fun J w hJ hj hs => ?_) (fun J hJ _ hs => ?_)
    · rw [stA_y hs] at hq
      exact bq_f (by decide) (hq J hJ hj)
    · rw [stA_n hs] at hq
      rw [nI_1]
      exact bq_t rfl (s_Stable_fill_3_2 (l_fill hC he d (m + 1) J hJ (by omega) hq))
theorem qk_fill (hC : Core B F S n cd) (h : ro B I) {e : Nat} {X : Nat × (Nat → Int32)} (he : 8 ≤ e) (hq : ∀ J, ro B J → (∀ i, i < F → J 43 i = nI ((stA B F 8 0).2 i)) → Q (.inl (some (.int (nI (stA B F 8 0).1)))) J T) : ev (e + 1, X) 233 0 [some (.ref 42), some (.ref 3), none] [] I T Q :=
  s_Stable_fill_3_0 (l_fill hC he 8 0 I h (by omega) hq)
/-! the reference -/
theorem l_mpc (hC : Core B F S n cd) (h : ro B I) {f b : Nat} {g : Nat → Nat} (hf : f < F) (hb : b ≤ 8) (hg8 : ∀ i, i < f → g i ≤ 8) (hg : ∀ i, i < f → I 533 i = nI (g i)) {e : Nat} {X : Nat × (Nat → Int32)} {m : Nat} (h1 : pcP B g f b → t_M_stable_17 e X I T Q (nI f) (nI m) (nI b) 1 (nI f)) (h0 : ¬ pcP B g f b → t_M_stable_17 e X I T Q (nI f) (nI m) (nI b) 0 (nI f)) : ∀ (d i : Nat) (x : Int32), i + d = f → ((x = 1 ∧ ∀ k, k < i → ¬ (g k = b ∧ bfo B f k)) ∨ (x = 0 ∧ ¬ ∀ k, k < i → ¬ (g k = b ∧ bfo B f k))) → t_M_stable_17 e X I T Q (nI f) (nI m) (nI b) x (nI i)
  | 0, i, x, hi, hx => by
    have e0 : i = f := by omega
    subst e0
    rcases hx with ⟨rfl, k⟩ | ⟨rfl, k⟩
    · exact h1 k
    · exact h0 k
  | d + 1, i, x, hi, hx => by
    have h8 := hC.F8
    have := hg8 i (by omega)
    have e84 : I 84 = B 84 := h.cell (c := 84) (by decide)
    unfold t_M_stable_17 t_M_stable_34 t_M_stable_37
    refine bq_f (nI_ge (by omega) (by omega)) ⟨gix (by omega) (by omega), ?_⟩
    rw [nI_clamp (show i < 2 ^ 31 by omega), nI_clamp (show f < 2 ^ 31 by omega), hg i (by omega), nI_1 i, e84, (hC.fe hf).2.2.1]
    have ok : ¬ (g i = b ∧ bfo B f i) → ev (e + 1, X) 238 17 [some (.ref 46), some (.int (nI f)), some (.int (nI m)), some (.int (nI b)), some (.int (x &&& 1)), some (.int (nI (i + 1)))] [] I T Q := fun z => by
      have ex : x &&& 1 = x := by rcases hx with ⟨rfl, _⟩ | ⟨rfl, _⟩ <;> decide
      rw [ex]
      refine s_M_stable_17 (l_mpc hC h hf hb hg8 hg h1 h0 d (i + 1) x (by omega) ?_)
      rcases hx with ⟨a, k⟩ | ⟨a, k⟩
      · exact Or.inl ⟨a, fun j hj => by
          by_cases y : j = i
          · subst y; exact z
          · exact k j (by omega)⟩
      · exact Or.inr ⟨a, fun y => k (fun j hj => y j (by omega))⟩
    have bad : (g i = b ∧ bfo B f i) → ev (e + 1, X) 238 17 [some (.ref 46), some (.int (nI f)), some (.int (nI m)), some (.int (nI b)), some (.int (x &&& 0)), some (.int (nI (i + 1)))] [] I T Q := fun z => by
      have ex : x &&& 0 = 0 := by rcases hx with ⟨rfl, _⟩ | ⟨rfl, _⟩ <;> decide
      rw [ex]
      exact s_M_stable_17 (l_mpc hC h hf hb hg8 hg h1 h0 d (i + 1) 0 (by omega) (Or.inr ⟨rfl, fun y => y i (by omega) z⟩))
    refine ⟨fun c => ⟨⟨nI_pos (by omega), by omega⟩, ?_⟩, fun c => ok (fun z => c (by rw [z.1]))⟩
    have c2 : g i = b := (nI_eq (by omega) (by omega)).mp c
    refine p_has _ _ ?_
    by_cases k : ((B 6 f >>> (nI i &&& 31)) &&& 1) = 1
    · rw [if_pos k]; exact bq_f (by decide) (bad ⟨c2, k⟩)
    · rw [if_neg k]; exact bq_t rfl (ok (fun z => k z.2))
def mfP (B : II) (F S n : Nat) (cd : Nat → Nat × Int32) (many : Nat) (T : TT) (X : Nat × (Nat → Int32)) (k : Nat) : Prop := ∀ (e f : Nat) (g : Nat → Nat) (I : II) (Q : QQ), k ≤ e → f + k = F → ro B I → I 46 0 = 0 → (∀ i, i < f → I 533 i = nI (g i)) → (∀ i, i < f → g i ≤ 8) → (∀ J h, ro B J → J 46 0 = 0 → (∀ i, i < F → J 533 i = nI (h i)) → smB B many k f g = some h → Q (.inl (some (.int 1))) J T) → (∀ J, ro B J → J 46 0 = 0 → (∀ i, i < f → J 533 i = nI (g i)) → smB B many k f g = none → Q (.inl (some (.int 0))) J T) → ev (e + 1, X) 238 0 [some (.ref 46), some (.int (nI f)), some (.int (nI many)), none, none, none] [] I T Q
theorem mf_loop (hC : Core B F S n cd) {many k : Nat} (hm : many ≤ 8) {X : Nat × (Nat → Int32)} (ih : mfP B F S n cd many T X k) {e f : Nat} (he : k + 1 ≤ e) (hfk : f + (k + 1) = F) {g : Nat → Nat} (hu : ∀ i, i < f → g i ≤ 8) : ∀ (d b : Nat) (I : II), ro B I → I 46 0 = 0 → (∀ i, i < f → I 533 i = nI (g i)) → b + d = many → (∀ J h, ro B J → J 46 0 = 0 → (∀ i, i < F → J 533 i = nI (h i)) → lp (tyB B many k f g) d b = some h → Q (.inl (some (.int 1))) J T) → (∀ J, ro B J → J 46 0 = 0 → (∀ i, i < f → J 533 i = nI (g i)) → lp (tyB B many k f g) d b = none → Q (.inl (some (.int 0))) J T) → t_M_stable_10 e X I T Q (nI f) (nI many) (nI b)
  | 0, b, I, h, h0, hg, hb, q1, q0 => by
    unfold t_M_stable_10
    exact bq_t (nI_le (by omega) (by omega)) (q0 I h h0 hg rfl)
  | d + 1, b, I, h, h0, hg, hb, q1, q0 => by
    have h8 := hC.F8
    unfold t_M_stable_10
    refine bq_f (nI_ge (by omega) (by omega)) ?_
    refine l_mpc hC h (by omega) (by omega) hu hg (fun c => ?_) (fun c => ?_) f 0 1 (by omega) (Or.inl ⟨rfl, fun k hk => by omega⟩)
    · unfold t_M_stable_17 t_M_stable_58
      refine bq_t (nI_le (Nat.le_refl _) (by omega)) (bq_f (by decide) ⟨gix (by omega) (by omega), ?_⟩)
      rw [nI_1 b, nI_1 f, nI_clamp (show f < 2 ^ 31 by omega)]
      obtain ⟨e', rfl⟩ : ∃ e', e = e' + 1 := ⟨e - 1, by omega⟩
      refine ih e' (f + 1) (updN g f b) _ _ (by omega) (by omega) (h.trans (ro_up I (by decide) _ _)) h0 (fun i hi => ?_) (fun i hi => ?_) (fun J w hJ j0 hj hs => ?_) (fun J hJ j0 hj hs => ?_)
      · rw [m_up_at]
        unfold updN
        by_cases z : i = f
        · rw [if_pos z, if_pos z]
        · rw [if_neg z, if_neg z]; exact hg i (by omega)
      · unfold updN
        by_cases z : i = f
        · rw [if_pos z]; omega
        · rw [if_neg z]; exact hu i (by omega)
      · exact bq_f (by decide) (q1 J w hJ j0 hj (lp_S1 (by rw [tyB_y c]; exact hs)))
      · have ht : tyB B many k f g b = none := by rw [tyB_y c]; exact hs
        refine bq_t rfl (s_M_stable_10 (mf_loop hC hm ih he hfk hu d (b + 1) J hJ j0 (fun i hi => ?_) (by omega) (fun K w hK k0 hk y => q1 K w hK k0 hk (by rw [lp_S0 ht]; exact y)) (fun K hK k0 hk y => q0 K hK k0 hk (by rw [lp_S0 ht]; exact y))))
        rw [hj i (by omega)]
        unfold updN
        rw [if_neg (by omega)]
    · have ht : tyB B many k f g b = none := tyB_n c
      unfold t_M_stable_17 t_M_stable_58
      rw [nI_1 b]
      exact bq_t (nI_le (Nat.le_refl _) (by omega)) (bq_t rfl (s_M_stable_10 (mf_loop hC hm ih he hfk hu d (b + 1) I h h0 hg (by omega) (fun K w hK k0 hk y => q1 K w hK k0 hk (by rw [lp_S0 ht]; exact y)) (fun K hK k0 hk y => q0 K hK k0 hk (by rw [lp_S0 ht]; exact y)))))
theorem mf_all (hC : Core B F S n cd) {many : Nat} (hm : many ≤ 8) {X : Nat × (Nat → Int32)} : ∀ k, mfP B F S n cd many T X k
  | 0 => by
    intro e f g I Q he hf h h0 hg hu q1 q0
    have e0 : f = F := by omega
    subst e0
    refine s_M_stable_0 ?_
    unfold t_M_stable_0
    rw [(hC.2.1.ro h).1]
    exact bq_t rfl (q1 I g h h0 (fun i hi => hg i (by omega)) rfl)
  | k + 1 => by
    intro e f g I Q he hf h h0 hg hu q1 q0
    have h8 := hC.F8
    refine s_M_stable_0 ?_
    unfold t_M_stable_0
    rw [(hC.2.1.ro h).1]
    refine bq_f (fun z => by have := (nI_eq (by omega) (by omega)).mp z; omega) ?_
    rw [smB_T] at q1 q0
    exact mf_loop hC hm (mf_all hC hm k) he hf hu many 0 I h h0 hg (by omega) q1 q0
theorem l_mlays (hC : Core B F S n cd) {e : Nat} {X : Nat × (Nat → Int32)} (he : 8 ≤ e) : ∀ (d m : Nat) (I : II), ro B I → I 46 0 = 0 → m + d = 8 → (∀ J, ro B J → J 46 0 = 0 → (∀ i, i < F → J 533 i = nI ((stA B F d m).2 i)) → Q (.inl (some (.int (nI (stA B F d m).1)))) J T) → t_M_laysStalls_2 (e + 1, X) I T Q (nI m)
  | 0, m, I, h, h0, hm, hq => by
    have h8 := hC.F8
    have e8 : m = 8 := by omega
    subst e8
    unfold t_M_laysStalls_2
    refine mf_all hC (by omega) F e 0 (fun _ => 0) I _ (by omega) (by omega) h h0 (fun i hi => by omega) (fun i hi => by omega) (fun J w hJ j0 hj hs => ?_) (fun J hJ j0 _ hs => ?_)
    · rw [stA_y hs] at hq
      exact bq_f (by decide) (hq J hJ j0 hj)
    · obtain ⟨w, hw⟩ := sm_8 (B := B) h8
      rw [hs] at hw; cases hw
  | d + 1, m, I, h, h0, hm, hq => by
    have h8 := hC.F8
    unfold t_M_laysStalls_2
    refine mf_all hC (by omega) F e 0 (fun _ => 0) I _ (by omega) (by omega) h h0 (fun i hi => by omega) (fun i hi => by omega) (fun J w hJ j0 hj hs => ?_) (fun J hJ j0 _ hs => ?_)
    · rw [stA_y hs] at hq
      exact bq_f (by decide) (hq J hJ j0 hj)
    · rw [stA_n hs] at hq
      rw [nI_1]
      exact bq_t rfl (s_M_laysStalls_2 (l_mlays hC he d (m + 1) J hJ j0 (by omega) hq))
theorem qk_lays (hC : Core B F S n cd) (h : ro B I) (h0 : I 46 0 = 0) {e : Nat} {X : Nat × (Nat → Int32)} (he : 8 ≤ e) (hq : ∀ J, ro B J → J 46 0 = 0 → (∀ i, i < F → J 533 i = nI ((stA B F 8 0).2 i)) → Q (.inl (some (.int (nI (stA B F 8 0).1)))) J T) : ev (e + 1, X) 237 0 [some (.ref 46), none] [] I T Q :=
  s_M_laysStalls_0 (l_mlays hC he 8 0 I h h0 (by omega) hq)
theorem xq_stalls (hA : InvA B F S n cd) {e : Nat} {X : Nat × (Nat → Int32)} (he : 8 ≤ e) (hq : ∀ J, ro B J → Q (.inl (some (.int (nI (stA B F 8 0).1)))) J T) : ev (e + 1, X) 232 0 [some (.ref 0)] [] B T Q :=
  s_X_stalls_0 (qk_fill hA.1 (ro.refl B) he (fun J hJ _ => hq J hJ))
theorem mq_stalls (hA : InvA B F S n cd) (h : ro B I) {e : Nat} {X : Nat × (Nat → Int32)} (he : 8 ≤ e) (hq : ∀ J, ro B J → Q (.inl (some (.int (nI (stA B F 8 0).1)))) J T) : ev (e + 1, X) 236 0 [some (.ref 46)] [] I T Q :=
  s_M_stalls_0 (qk_lays hA.1 (h.trans (ro_thrown I 0)) rfl he (fun J hJ _ _ => hq J hJ))
theorem o_stalls {E : MEnv} (hE : E.1 = 16) : op_ok Inv E t_W_main_685 := by
  intro I T Q i m hI hT hm hi hL hn
  obtain ⟨e0, X⟩ := E
  have hE : e0 = 15 + 1 := hE
  subst hE
  obtain ⟨F, S, n, cd, hA⟩ := hI
  unfold t_W_main_685
  refine xq_stalls hA (by decide) (fun J hJ => ?_)
  exact mq_stalls hA hJ (by decide) (fun K hK => bq_t rfl (hn K _ ⟨F, S, n, cd, hA.ro hK⟩ (TI_s hT)))
theorem xq_stall (hA : InvA B F S n cd) (hT : TG T) {e : Nat} {X : Nat × (Nat → Int32)} (he : 8 ≤ e) {f : Nat} (hf : f < F) (hq : ∀ J, ro B J → Q (.inl (some (.int (nI ((stA B F 8 0).2 f))))) J T) : ev (e + 1, X) 240 0 [some (.ref 0), some (.int (nI f))] [] B T Q := by
  have hC := hA.1
  have h8 := hC.F8
  have h6 := hC.S6
  refine s_X_stall_0 ?_
  unfold t_X_stall_0
  refine q_needF hA.1.1 hT _ (fun _ => ?_) (fun q => absurd ⟨f, hf, rfl⟩ q)
  refine qk_fill hC (ro.refl B) he (fun J hJ hj => ?_)
  refine s_Stable_boxOf_0 ?_
  unfold t_Stable_boxOf_0 t_Stable_boxOf_10 t_Stable_boxOf_11
  refine bq_f (nI_pos (by omega)) (bq_f (nI_ge (a := f) (b := 8) (by omega) (by omega)) ⟨gix (by omega) (by omega), ?_⟩)
  rw [nI_clamp (by omega), hj f hf]
  exact hq J hJ
theorem mq_stall (hC : Core B F S n cd) (h : ro B I) {e : Nat} {X : Nat × (Nat → Int32)} (he : 8 ≤ e) {f : Nat} (hf : f < F) (hq : ∀ J, ro B J → J 46 0 = 0 → Q (.inl (some (.int (nI ((stA B F 8 0).2 f))))) J T) : ev (e + 1, X) 242 0 [some (.ref 46), some (.int (nI f))] [] I T Q := by
  have h8 := hC.F8
  have h6 := hC.S6
  have hI : ro B (m_up I 46 0 0) := h.trans (ro_thrown I 0)
  have h0 : (m_up I 46 0 0) 46 0 = 0 := rfl
  refine s_M_stall_0 ?_
  unfold t_M_stall_0 t_M_stall_11
  refine qm_isFeeling (hC.2.1.ro hI) _ ?_
  rw [wI_t ((okW_lt (hC.2.1.ro hI).2.1).mpr ⟨f, hf, rfl⟩)]
  refine bq_f (by decide) ?_
  refine qm_bad0 rfl _ _ ?_
  refine bq_t rfl ?_
  refine qk_lays hC hI h0 he (fun J hJ j0 hj => ?_)
  refine ⟨gix (by omega) (by omega), ?_⟩
  rw [nI_clamp (by omega), hj f hf]
  exact hq J hJ j0
theorem xq_stall_b0 (hA : InvA B F S n cd) (hT : TG T) {a1 : Int32} (c : ¬ ∃ f, f < F ∧ a1 = nI f) (hq : Q (.inr 0) (m_up B 0 14 (B 0 14 + 1)) (TX T)) : ev E 240 0 [some (.ref 0), some (.int (a1))] [] B T Q := by
  refine s_X_stall_0 ?_
  unfold t_X_stall_0
  exact q_needF hA.1.1 hT _ (fun q => absurd q c) (fun _ => hq)
theorem mq_stall_b0 (hm : mN I F S) {a1 : Int32} (c : ¬ ∃ f, f < F ∧ a1 = nI f) (hq : ∀ v J, ro (m_up I 48 0 (I 48 0 + 1)) J → J 46 0 = 1 → Q (.inl (some (.int v))) J T) : ev E 242 0 [some (.ref 46), some (.int (a1))] [] I T Q := by
  have hm2 : mN (m_up I 46 0 0) F S := hm
  refine s_M_stall_0 ?_
  unfold t_M_stall_0 t_M_stall_11
  refine qm_isFeeling hm2 _ ?_
  rw [wI_f (fun q => c ((okW_lt hm.2.1).mp q))]
  refine bq_t rfl ?_
  refine qm_bad1 (j := 0) rfl (by decide) (by decide) ?_
  refine bq_f (by decide) ?_
  exact hq _ _ (ro_bad I _ _) rfl

theorem o_stall {E : MEnv} (hE : E.1 = 16) : op_ok Inv E t_W_main_692 := by
  intro I T Q i m hI hT hm hi hL hn
  have hG := TI_g hT hm
  obtain ⟨e0, X⟩ := E
  have hE : e0 = 15 + 1 := hE
  subst hE
  obtain ⟨F, S, n, cd, hA⟩ := hI
  unfold t_W_main_692
  generalize X.2 (nI i + 1).toNatClampNeg = a1
  refine ⟨gsc 1 hi hL (by decide), ?_⟩
  refine s_W_stall_0 ?_
  unfold t_W_stall_0 t_W_stall_9
  by_cases c0 : ∃ f, f < F ∧ a1 = nI f
  · obtain ⟨f, hf, rfl⟩ := c0
    refine xq_stall hA hG (by decide) hf (fun J hJ => ?_)
    exact ⟨gsc 1 hi hL (by decide), mq_stall hA.1 hJ (by decide) hf (fun K hK h0 => fin_ok h0 (fun _ => rfl) (hn K _ ⟨F, S, n, cd, hA.ro hK⟩ (TI_s hT)))⟩
  · refine xq_stall_b0 hA hG  c0 ?_
    refine ⟨rfl, ?_⟩
    exact ⟨gsc 1 hi hL (by decide), mq_stall_b0 (F := F) (S := S) (show mN (m_up I 0 14 (I 0 14 + 1)) F S from hA.1.2.1)  c0 (fun v J hJ h0 => fin_ok h0 (fun q => absurd q (by decide)) (hn J _ (Inv_thr (x := 0) (by decide) ⟨F, S, n, cd, hA⟩ rfl (ro.refl _) hJ) (TI_x hT)))⟩
end STL
