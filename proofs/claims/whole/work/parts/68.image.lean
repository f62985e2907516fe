/-! ===== image, restore ===== -/
section IMG
variable {E : MEnv} {B I : II} {T : TT} {Q : QQ} {F S n : Nat} {cd : Nat → Nat × Int32}
theorem p_puts0 {x p : Nat} (hK : m_K x = (1, 494)) (hx : x ≠ 46) (hp : p < 494) (hs : I 46 37 = nI p) (v : Int32) (hq : Q (.inl (some (.int v))) (m_up (m_up I x p v) 46 37 (nI (p + 1))) T) : ev E 328 0 [some (.ref 46), some (.ref x), some (.int v), some (.int 0)] [] I T Q := by
  refine s_M_puts_R_0 hK ?_
  unfold t_M_puts_R_0 t_M_puts_R_7
  rw [hs, nI_clamp (by omega)]
  have e1 : (m_up I x p v) 46 37 = nI p := by rw [m_up_ne (fun e => hx e.symm)]; exact hs
  rw [e1, nI_1]
  have e2 : (m_up (m_up I x p v) 46 37 (nI (p + 1))) 46 37 = nI (p + 1) := rfl
  rw [e2, nI_pred, nI_clamp (by omega)]
  have e3 : (m_up (m_up I x p v) 46 37 (nI (p + 1))) x p = v := by rw [m_up_ne hx, m_up_at, if_pos rfl]
  rw [e3]
  exact bq_t rfl ⟨⟨nI_pos (by omega), hp⟩, ⟨nI_pos (by omega), hp⟩, hq⟩
theorem p_puts1 {x p : Nat} (hK : m_K x = (1, 494)) (hx : x ≠ 46) (hp : p < 494) (hs : I 46 37 = nI p) (v : Int32) (hq : Q (.inl (some (.int (I x p)))) (m_up I 46 37 (nI (p + 1))) T) : ev E 328 0 [some (.ref 46), some (.ref x), some (.int v), some (.int 1)] [] I T Q := by
  refine s_M_puts_R_0 hK ?_
  unfold t_M_puts_R_0 t_M_puts_R_7
  rw [hs, nI_1]
  have e2 : (m_up I 46 37 (nI (p + 1))) 46 37 = nI (p + 1) := rfl
  rw [e2, nI_pred, nI_clamp (by omega)]
  have e3 : (m_up I 46 37 (nI (p + 1))) x p = I x p := by rw [m_up_ne hx]
  rw [e3]
  exact bq_f (by decide) ⟨⟨nI_pos (by omega), hp⟩, hq⟩
/-- what an image holds -/
def imV (I : II) (q : Nat) : Int32 := if q = 0 then I 46 34 else if q < 30 then I 508 (q - 1) else I (511 + (q - 30) / 29) ((q - 30) % 29)
def piH (I J : II) (x p : Nat) : Prop := FR [x, 46] I J ∧ (∀ j, j ≠ 37 → J 46 j = I 46 j) ∧ J 46 37 = nI p ∧ ∀ q, q < p → J x q = imV I q
theorem piH_S {J : II} {x p : Nat} (hx : x ≠ 46) (h : piH I J x p) : piH I (m_up (m_up J x p (imV I p)) 46 37 (nI (p + 1))) x (p + 1) := by
  obtain ⟨a, b, c, d⟩ := h
  refine ⟨(a.trans (FR.up (by simp) _ _)).trans (FR.up (by simp) _ _), fun j hj => ?_, rfl, fun q hq => ?_⟩
  · rw [m_up_at, if_neg hj, m_up_ne (fun e => hx e.symm)]; exact b j hj
  · rw [m_up_ne hx, m_up_at]
    by_cases e : q = p
    · rw [if_pos e, e]
    · rw [if_neg e]; exact d q (by omega)
theorem l_pa3 {x w : Nat} (hK : m_K x = (1, 494)) (hx : 528 ≤ x ∧ x < 531) (hw : w < 16) : ∀ (d k : Nat) (J : II), piH I J x (30 + 29 * w + k) → k + d = 29 → (∀ J', piH I J' x (30 + 29 * (w + 1)) → t_M_putsAll_R_32 E J' T Q x 0 (nI (w + 1))) → t_M_putsAll_R_37 E J T Q x 0 (nI w) (nI k)
  | 0, k, J, h, hk, hq => by
    unfold t_M_putsAll_R_37
    rw [nI_1 w]
    refine bq_t (nI_le (a := 29) (b := k) (by omega) (by omega)) (s_M_putsAll_R_32 hK (hq J ?_))
    rw [show 30 + 29 * (w + 1) = 30 + 29 * w + k by omega]; exact h
  | d + 1, k, J, h, hk, hq => by
    unfold t_M_putsAll_R_37
    refine bq_f (nI_ge (a := k) (b := 29) (by omega) (by omega)) ⟨gix (by omega) (by omega), gix (by omega) (by omega), gix (by omega) (by omega), ?_⟩
    rw [nI_clamp (show w < 2 ^ 31 by omega), nI_clamp (show k < 2 ^ 31 by omega), nI_1 k]
    have ev1 : imV I (30 + 29 * w + k) = I (511 + w) k := by
      unfold imV
      rw [if_neg (by omega), if_neg (by omega), show (30 + 29 * w + k - 30) / 29 = w by omega, show (30 + 29 * w + k - 30) % 29 = k by omega]
    have e1 : J (511 + w) = I (511 + w) := h.1 (511 + w) (by simp; omega)
    rw [e1]
    refine p_puts0 hK (by omega) (by omega) h.2.2.1 _ ?_
    refine ⟨⟨nI_pos (by omega), by omega⟩, ?_⟩
    have h2 := piH_S (by omega) h
    rw [ev1] at h2
    rw [up_same (c := 511 + w) (j := k) (by rw [h2.1 (511 + w) (by simp; omega)])]
    refine s_M_putsAll_R_37 hK (l_pa3 hK hx hw d (k + 1) _ ?_ (by omega) hq)
    rw [show 30 + 29 * w + (k + 1) = 30 + 29 * w + k + 1 by omega]; exact h2
theorem l_pa2 {x : Nat} (hK : m_K x = (1, 494)) (hx : 528 ≤ x ∧ x < 531) : ∀ (d w : Nat) (J : II), piH I J x (30 + 29 * w) → w + d = 16 → (∀ J', piH I J' x 494 → Q (.inl none) J' T) → t_M_putsAll_R_32 E J T Q x 0 (nI w)
  | 0, w, J, h, hw, hq => by
    unfold t_M_putsAll_R_32
    refine bq_t (nI_le (a := 16) (b := w) (by omega) (by omega)) (hq J ?_)
    rw [show 494 = 30 + 29 * w by omega]; exact h
  | d + 1, w, J, h, hw, hq => by
    unfold t_M_putsAll_R_32
    refine bq_f (nI_ge (a := w) (b := 16) (by omega) (by omega)) ?_
    exact l_pa3 hK hx (by omega) 29 0 J h (by omega) (fun J' h' => l_pa2 hK hx d (w + 1) J' h' (by omega) hq)
theorem l_pa1 {x : Nat} (hK : m_K x = (1, 494)) (hx : 528 ≤ x ∧ x < 531) : ∀ (d k : Nat) (J : II), piH I J x (1 + k) → k + d = 29 → (∀ J', piH I J' x 494 → Q (.inl none) J' T) → t_M_putsAll_R_13 E J T Q x 0 (nI k)
  | 0, k, J, h, hk, hq => by
    unfold t_M_putsAll_R_13
    refine bq_t (nI_le (a := 29) (b := k) (by omega) (by omega)) ?_
    refine l_pa2 hK hx 16 0 J ?_ (by omega) hq
    rw [show 30 + 29 * 0 = 1 + k by omega]; exact h
  | d + 1, k, J, h, hk, hq => by
    unfold t_M_putsAll_R_13
    refine bq_f (nI_ge (a := k) (b := 29) (by omega) (by omega)) ⟨gix (by omega) (by omega), ?_⟩
    rw [nI_clamp (show k < 2 ^ 31 by omega), nI_1 k]
    have ev1 : imV I (1 + k) = I 508 k := by
      unfold imV
      rw [if_neg (by omega), if_pos (by omega), show 1 + k - 1 = k by omega]
    have e1 : J 508 = I 508 := h.1 508 (by simp; omega)
    rw [e1]
    refine p_puts0 hK (by omega) (by omega) h.2.2.1 _ ?_
    refine ⟨⟨nI_pos (by omega), by omega⟩, ?_⟩
    have h2 := piH_S (by omega) h
    rw [ev1] at h2
    rw [up_same (c := 508) (j := k) (by rw [h2.1 508 (by simp; omega)])]
    refine s_M_putsAll_R_13 hK (l_pa1 hK hx d (k + 1) _ ?_ (by omega) hq)
    rw [show 1 + (k + 1) = 1 + k + 1 by omega]; exact h2
theorem p_putsAll0 {x : Nat} (hK : m_K x = (1, 494)) (hx : 528 ≤ x ∧ x < 531) (hq : ∀ J, piH I J x 494 → Q (.inl none) J T) : ev E 327 0 [some (.ref 46), some (.ref x), some (.int 0), none, none] [] I T Q := by
  refine s_M_putsAll_R_0 hK ?_
  unfold t_M_putsAll_R_0
  have h0 : piH I (m_up I 46 37 0) x 0 := ⟨FR.up (by simp) _ _, fun j hj => by rw [m_up_at, if_neg hj], rfl, fun q hq => absurd hq (Nat.not_lt_zero q)⟩
  refine p_puts0 (p := 0) hK (by omega) (by omega) rfl _ ?_
  have h2 := piH_S (by omega) h0
  have ev1 : imV I 0 = (m_up I 46 37 0) 46 34 := rfl
  rw [ev1] at h2
  show t_M_putsAll_R_13 E (m_up _ 46 34 _) T Q x 0 0
  rw [up_same (c := 46) (j := 34) (by
    rw [h2.2.1 34 (by decide)]; rfl)]
  exact l_pa1 hK hx 29 0 _ h2 (by omega) hq
/-- an image put back -/
def pbH (I J : II) (x p : Nat) : Prop := (∀ c, c ≠ 46 → c ≠ 508 → ¬ (511 ≤ c ∧ c < 527) → J c = I c) ∧ (∀ j, j ≠ 37 → j ≠ 34 → J 46 j = I 46 j) ∧ J 46 37 = nI p ∧ (1 ≤ p → J 46 34 = I x 0) ∧ (∀ k, k < 29 → 1 + k < p → J 508 k = I x (1 + k)) ∧ ∀ w k, w < 16 → k < 29 → 30 + 29 * w + k < p → J (511 + w) k = I x (30 + 29 * w + k)
theorem l_pb3 {x w : Nat} (hK : m_K x = (1, 494)) (hx : 528 ≤ x ∧ x < 531) (hw : w < 16) : ∀ (d k : Nat) (J : II), pbH I J x (30 + 29 * w + k) → k + d = 29 → (∀ J', pbH I J' x (30 + 29 * (w + 1)) → t_M_putsAll_R_32 E J' T Q x 1 (nI (w + 1))) → t_M_putsAll_R_37 E J T Q x 1 (nI w) (nI k)
  | 0, k, J, h, hk, hq => by
    unfold t_M_putsAll_R_37
    rw [nI_1 w]
    refine bq_t (nI_le (a := 29) (b := k) (by omega) (by omega)) (s_M_putsAll_R_32 hK (hq J ?_))
    rw [show 30 + 29 * (w + 1) = 30 + 29 * w + k by omega]; exact h
  | d + 1, k, J, h, hk, hq => by
    unfold t_M_putsAll_R_37
    refine bq_f (nI_ge (a := k) (b := 29) (by omega) (by omega)) ⟨gix (by omega) (by omega), gix (by omega) (by omega), gix (by omega) (by omega), ?_⟩
    rw [nI_clamp (show w < 2 ^ 31 by omega), nI_clamp (show k < 2 ^ 31 by omega), nI_1 k]
    obtain ⟨a1, a2, a3, a4, a5, a6⟩ := h
    refine p_puts1 hK (by omega) (by omega) a3 _ ?_
    refine ⟨⟨nI_pos (by omega), by omega⟩, ?_⟩
    have ex : J x = I x := a1 x (by omega) (by omega) (by omega)
    rw [ex]
    refine s_M_putsAll_R_37 hK (l_pb3 hK hx hw d (k + 1) _ ⟨fun c h1 h2 h3 => ?_, fun j h1 h2 => ?_, ?_, fun _ => ?_, fun j h1 h2 => ?_, fun v j h1 h2 h3 => ?_⟩ (by omega) hq)
    · rw [m_up_ne (by omega), m_up_ne h1]; exact a1 c h1 h2 h3
    · rw [m_up_ne (by omega), m_up_at, if_neg h1]; exact a2 j h1 h2
    · rw [m_up_ne (by omega)]; rfl
    · rw [m_up_ne (by omega), m_up_at, if_neg (by decide)]; exact a4 (by omega)
    · rw [m_up_ne (by omega), m_up_ne (by omega)]; exact a5 j h1 (by omega)
    · by_cases e : v = w
      · subst e
        rw [m_up_at]
        by_cases e2 : j = k
        · rw [if_pos e2, e2]
        · rw [if_neg e2, m_up_ne (by omega)]; exact a6 v j h1 h2 (by omega)
      · rw [m_up_ne (by omega), m_up_ne (by omega)]; exact a6 v j h1 h2 (by omega)
theorem l_pb2 {x : Nat} (hK : m_K x = (1, 494)) (hx : 528 ≤ x ∧ x < 531) : ∀ (d w : Nat) (J : II), pbH I J x (30 + 29 * w) → w + d = 16 → (∀ J', pbH I J' x 494 → Q (.inl none) J' T) → t_M_putsAll_R_32 E J T Q x 1 (nI w)
  | 0, w, J, h, hw, hq => by
    unfold t_M_putsAll_R_32
    refine bq_t (nI_le (a := 16) (b := w) (by omega) (by omega)) (hq J ?_)
    rw [show 494 = 30 + 29 * w by omega]; exact h
  | d + 1, w, J, h, hw, hq => by
    unfold t_M_putsAll_R_32
    refine bq_f (nI_ge (a := w) (b := 16) (by omega) (by omega)) ?_
    exact l_pb3 hK hx (by omega) 29 0 J h (by omega) (fun J' h' => l_pb2 hK hx d (w + 1) J' h' (by omega) hq)
theorem l_pb1 {x : Nat} (hK : m_K x = (1, 494)) (hx : 528 ≤ x ∧ x < 531) : ∀ (d k : Nat) (J : II), pbH I J x (1 + k) → k + d = 29 → (∀ J', pbH I J' x 494 → Q (.inl none) J' T) → t_M_putsAll_R_13 E J T Q x 1 (nI k)
  | 0, k, J, h, hk, hq => by
    unfold t_M_putsAll_R_13
    refine bq_t (nI_le (a := 29) (b := k) (by omega) (by omega)) ?_
    refine l_pb2 hK hx 16 0 J ?_ (by omega) hq
    rw [show 30 + 29 * 0 = 1 + k by omega]; exact h
  | d + 1, k, J, h, hk, hq => by
    unfold t_M_putsAll_R_13
    refine bq_f (nI_ge (a := k) (b := 29) (by omega) (by omega)) ⟨gix (by omega) (by omega), ?_⟩
    rw [nI_clamp (show k < 2 ^ 31 by omega), nI_1 k]
    obtain ⟨a1, a2, a3, a4, a5, a6⟩ := h
    refine p_puts1 hK (by omega) (by omega) a3 _ ?_
    refine ⟨⟨nI_pos (by omega), by omega⟩, ?_⟩
    have ex : J x = I x := a1 x (by omega) (by omega) (by omega)
    rw [ex]
    refine s_M_putsAll_R_13 hK (l_pb1 hK hx d (k + 1) _ ⟨fun c h1 h2 h3 => ?_, fun j h1 h2 => ?_, ?_, fun _ => ?_, fun j h1 h2 => ?_, fun v j h1 h2 h3 => ?_⟩ (by omega) hq)
    · rw [m_up_ne h2, m_up_ne h1]; exact a1 c h1 h2 h3
    · rw [m_up_ne (by omega), m_up_at, if_neg h1]; exact a2 j h1 h2
    · rw [m_up_ne (by omega)]; rfl
    · rw [m_up_ne (by omega), m_up_at, if_neg (by decide)]; exact a4 (by omega)
    · rw [m_up_at]
      by_cases e2 : j = k
      · rw [if_pos e2, e2]
      · rw [if_neg e2, m_up_ne (by omega)]; exact a5 j h1 (by omega)
    · omega
theorem p_putsAll1 {x : Nat} (hK : m_K x = (1, 494)) (hx : 528 ≤ x ∧ x < 531) (hq : ∀ J, pbH I J x 494 → Q (.inl none) J T) : ev E 327 0 [some (.ref 46), some (.ref x), some (.int 1), none, none] [] I T Q := by
  refine s_M_putsAll_R_0 hK ?_
  unfold t_M_putsAll_R_0
  refine p_puts1 (p := 0) hK (by omega) (by omega) rfl _ ?_
  have ex : (m_up I 46 37 0) x = I x := m_up_ne (by omega)
  rw [ex]
  refine l_pb1 hK hx 29 0 _ ⟨fun c h1 h2 h3 => ?_, fun j h1 h2 => ?_, ?_, fun _ => ?_, fun j h1 h2 => ?_, fun v j h1 h2 h3 => ?_⟩ (by omega) hq
  · rw [m_up_ne h1, m_up_ne h1, m_up_ne h1]
  · rw [m_up_at, if_neg h2, m_up_at, if_neg h1, m_up_at, if_neg h1]
  · rfl
  · rfl
  · omega
  · omega
theorem o_image : op_ok Inv E t_W_main_1495 := by
  intro I T Q i m9 hI hT hm9 hi hL hn
  obtain ⟨F, S, n, cd, hA⟩ := hI
  have hA0 := hA
  obtain ⟨hC, hB, ⟨w, w1, w2, w3, w4⟩, ⟨m, m1, m2, m3, m4⟩, hTx, hCt, hSr⟩ := hA
  have h8 := hC.F8
  unfold t_W_main_1495
  refine s_X_image_0 ?_
  unfold t_X_image_0
  rw [m2]
  by_cases c3 : m = 3
  · subst c3
    refine bq_f (by decide) ?_
    refine s_M_image_0 ?_
    unfold t_M_image_0
    refine bq_t m3 ?_
    exact bq_t rfl (hn _ _ (Inv.ro (ro_thrown I 0) ⟨F, S, n, cd, hA0⟩) (TI_s hT))
  · have hm : m ≤ 2 := by omega
    refine bq_t (nI_lt (a := m) (b := 3) (by omega) (by omega)) ?_
    refine s_Shelf_keepImage_28_0 ?_
    unfold t_Shelf_keepImage_28_0 t_Shelf_keepImage_28_37
    rw [m2]
    refine bq_f (nI_ge (a := m) (b := 3) (by omega) (by omega)) ?_
    rw [m493, nI_clamp (by omega)]
    refine ⟨⟨by decide, nI_pos (by omega), by decide, by decide, by show 493 * m + 464 ≤ 1479; omega⟩, ?_⟩
    rw [← m493]
    refine p_save34 hm ?_
    rw [row_row]
    have r34 : (m_row I 34 (va_cpy (I 33) (I 34) 0 (493 * m) 464)) 34 = va_cpy (I 33) (I 34) 0 (493 * m) 464 := rfl
    have r29 : (m_row I 34 (va_cpy (I 33) (I 34) 0 (493 * m) 464)) 29 = I 29 := rfl
    rw [r34, r29]
    show (_ ∧ _) ∧ _
    have r32 : (m_row I 34 (va_cpy (I 29) (va_cpy (I 33) (I 34) 0 (493 * m) 464) 0 (493 * m + 464) 29)) 32 = I 32 := rfl
    rw [r32, m2, w2, nI_clamp (by omega)]
    refine ⟨⟨nI_pos (by omega), by omega⟩, ?_⟩
    have q32 : (m_up (m_row I 34 (va_cpy (I 29) (va_cpy (I 33) (I 34) 0 (493 * m) 464) 0 (493 * m + 464) 29)) 35 m (nI w)) 32 4 = nI m := m2
    rw [q32, nI_1]
    show ev E 326 0 [some (.ref 46)] [] _ T _
    generalize hJ : m_up (m_up (m_row I 34 (va_cpy (I 29) (va_cpy (I 33) (I 34) 0 (493 * m) 464) 0 (493 * m + 464) 29)) 35 m (nI w)) 32 4 (nI (m + 1)) = J
    have fJ : FR [34, 35, 32] I J := by
      subst hJ
      exact ((FR.row (by decide) _).trans (FR.up (by decide) _ _)).trans (FR.up (by decide) _ _)
    have j32 : J 32 = fun j => if j = 4 then nI (m + 1) else I 32 j := by subst hJ; rfl
    have j35 : J 35 = fun j => if j = m then nI w else I 35 j := by subst hJ; rfl
    have j34 : J 34 = va_cpy (I 29) (va_cpy (I 33) (I 34) 0 (493 * m) 464) 0 (493 * m + 464) 29 := by subst hJ; rfl
    have j46 : J 46 = I 46 := fJ 46 (by decide)
    refine s_M_image_0 ?_
    unfold t_M_image_0
    have k2 : (m_up J 46 0 0) 46 36 = nI m := by show J 46 36 = _; rw [j46]; exact m3
    rw [k2, nI_clamp (by omega)]
    refine bq_f (fun z => by have := (nI_eq (a := m) (b := 3) (by omega) (by omega)).mp z; omega) ⟨⟨nI_pos (by omega), by omega⟩, ?_⟩
    refine p_putsAll0 (KF_527 (by omega)) (by omega) (fun L hL => ?_)
    obtain ⟨l1, l2, l3, l4⟩ := hL
    have l36 : L 46 36 = nI m := by rw [l2 36 (by decide)]; exact k2
    show (_ → t_W_main_1543 E _ T Q (nI i)) ∧ (¬ _ → _)
    rw [l36, nI_1]
    generalize hKK : m_up L 46 36 (nI (m + 1)) = K
    have fK : FR [528 + m, 46] J K := by
      subst hKK
      exact (FR.up (c := 46) (by simp) _ _).trans (l1.trans (FR.up (by simp) _ _))
    have fa : ∀ c, c ∉ [34, 35, 32, 46] → c ≠ 528 + m → K c = I c := fun c hc h => by
      rw [fK c (by simp at hc ⊢; omega), fJ c (by simp at hc ⊢; omega)]
    have k46 : ∀ j, j ≠ 0 → j ≠ 36 → j ≠ 37 → K 46 j = I 46 j := fun j a b c => by
      subst hKK
      rw [m_up_at, if_neg b, l2 j c, m_up_at, if_neg a, j46]
    have k36 : K 46 36 = nI (m + 1) := by subst hKK; rfl
    have kx : ∀ q, q < 494 → K (528 + m) q = imV (m_up J 46 0 0) q := fun q hq => by
      subst hKK
      rw [m_up_ne (by omega)]; exact l4 q hq
    have k32 : K 32 = J 32 := fK 32 (by simp; omega)
    have k34 : K 34 = J 34 := fK 34 (by simp; omega)
    have k35 : K 35 = J 35 := fK 35 (by simp; omega)
    have im0 : K (528 + m) 0 = nI w := by
      rw [kx 0 (by omega)]
      show J 46 34 = _
      rw [j46]; exact w3
    have im1 : ∀ j, j < 29 → K (528 + m) (1 + j) = I 508 j := fun j hj => by
      rw [kx (1 + j) (by omega)]
      unfold imV
      rw [if_neg (by omega), if_pos (by omega), show 1 + j - 1 = j by omega]
      show J 508 j = _
      rw [fJ 508 (by decide)]
    have im2 : ∀ k j, k < 16 → j < 29 → K (528 + m) (30 + 29 * k + j) = I (511 + k) j := fun k j hk hj => by
      rw [kx (30 + 29 * k + j) (by omega)]
      unfold imV
      rw [if_neg (by omega), if_neg (by omega), show (30 + 29 * k + j - 30) / 29 = k by omega, show (30 + 29 * k + j - 30) % 29 = j by omega, m_up_ne (by omega), fJ (511 + k) (by simp; omega)]
    refine bq_t (by rw [k36, j32]; rfl) (hn K T ⟨F, S, n, cd, ?_, ?_, ?_, ⟨m + 1, by omega, ?_, k36, fun u hu => ?_⟩, ?_, ⟨?_, ?_, ?_⟩, ?_⟩ (TI_s hT))
    · exact hC.of (fun c hc => fa c (by unfold coreC at hc; simp; omega) (by unfold coreC at hc; omega)) (k46 19 (by decide) (by decide) (by decide)) (by rw [fa 29 (by decide) (by omega), fa 508 (by decide) (by omega)]; exact hC.2.2.2.2.2.2.1) (by rw [fa 29 (by decide) (by omega)]; exact hC.rv)
    · exact hB.of (fun c hc => fa c (by unfold bookC at hc; simp; omega) (by unfold bookC at hc; omega)) (k46 33 (by decide) (by decide) (by decide))
    · exact Sh.of ⟨w, w1, w2, w3, w4⟩ (fun c hc => fa c (by unfold shelC at hc; simp; omega) (by unfold shelC at hc; omega)) (by rw [k32, j32]; rfl) (k46 34 (by decide) (by decide) (by decide))
    · rw [k32, j32]; rfl
    · by_cases e : u = m
      · subst e
        refine ⟨w, w1, ?_, im0, ?_, ?_, fun k hk => ⟨?_, ?_⟩⟩
        · rw [k35, j35]; exact if_pos rfl
        · refine hC.2.2.2.2.2.2.1.eq (fun j hj => ?_) im1
          show K 34 (493 * u + 464 + j) = _
          rw [k34, j34, pk_cpy_in (by omega) (by omega), show 0 + (493 * u + 464 + j - (493 * u + 464)) = j by omega]
        · refine hC.rv.eq h8 (fun j hj => ?_)
          show K 34 (493 * u + 464 + j) = _
          rw [k34, j34, pk_cpy_in (by omega) (by omega), show 0 + (493 * u + 464 + j - (493 * u + 464)) = j by omega]
        · refine (w4 k hk).1.eq (fun j hj => ?_) (fun j hj => im2 k j (by omega) hj)
          show K 34 (493 * u + 29 * k + j) = _
          rw [k34, j34, pk_cpy_out (by omega), pk_cpy_in (by omega) (by omega), show 0 + (493 * u + 29 * k + j - 493 * u) = 29 * k + j by omega]
        · refine (w4 k hk).2.eq h8 (fun j hj => ?_)
          show K 34 (493 * u + 29 * k + j) = _
          rw [k34, j34, pk_cpy_out (by omega), pk_cpy_in (by omega) (by omega), show 0 + (493 * u + 29 * k + j - 493 * u) = 29 * k + j by omega]
      · obtain ⟨v, v1, v2, v3, v4, v5, v6⟩ := m4 u (by omega)
        have e34 : ∀ q, q < 493 * (u + 1) → K 34 q = I 34 q := fun q hq => by
          have : 493 * (u + 1) ≤ 493 * m := Nat.mul_le_mul (Nat.le_refl _) (by omega)
          rw [k34, j34, pk_cpy_out (by omega), pk_cpy_out (by omega)]
        have e5 : K (528 + u) = I (528 + u) := fa (528 + u) (by simp; omega) (by omega)
        refine ⟨v, v1, ?_, by rw [e5]; exact v3, ?_, ?_, fun k hk => ⟨?_, ?_⟩⟩
        · rw [k35, j35]
          show (if u = m then nI w else I 35 u) = _
          rw [if_neg e]; exact v2
        · rw [e5]
          exact v4.eq (fun j hj => e34 _ (by omega)) (fun _ _ => rfl)
        · exact v5.eq h8 (fun j hj => e34 _ (by omega))
        · rw [e5]
          exact (v6 k hk).1.eq (fun j hj => e34 _ (by omega)) (fun _ _ => rfl)
        · exact (v6 k hk).2.eq h8 (fun j hj => e34 _ (by omega))
    · exact hTx.of (fa 2 (by decide) (by omega)) (fa 47 (by decide) (by omega)) (by rw [fa 1 (by decide) (by omega)]) (by rw [fa 1 (by decide) (by omega)]) (k46 1 (by decide) (by decide) (by decide)) (k46 3 (by decide) (by decide) (by decide))
    · rw [fa 0 (by decide) (by omega), k46 35 (by decide) (by decide) (by decide)]; exact hCt.1
    · rw [fa 0 (by decide) (by omega), fa 48 (by decide) (by omega)]; exact hCt.2.1
    · rw [fa 0 (by decide) (by omega), fa 48 (by decide) (by omega)]; exact hCt.2.2
    · obtain ⟨s1, s2⟩ := hSr
      have ef : ∀ s, findS K F n cd s = findS I F n cd s := fun s => by
        unfold findS frA
        rw [fa 6 (by decide) (by omega), fa 7 (by decide) (by omega), fa 8 (by decide) (by omega), fa 3 (by decide) (by omega), fa 4 (by decide) (by omega), fa 5 (by decide) (by omega), fa 29 (by decide) (by omega)]
      refine ⟨by rw [fa 36 (by decide) (by omega)]; exact s1, fun s hs hb => ?_⟩
      rw [fa 36 (by decide) (by omega)] at hb
      rw [ef, fa 40 (by decide) (by omega), fa 41 (by decide) (by omega), fa 39 (by decide) (by omega)]
      exact s2 s hs hb
theorem o_restore : op_ok Inv E t_W_main_1502 := by
  intro I T Q i m9 hI hT hm9 hi hL hn
  obtain ⟨F, S, n, cd, hA⟩ := hI
  have hA0 := hA
  obtain ⟨hC, hB, hSh, ⟨m, m1, m2, m3, m4⟩, hTx, hCt, hSr⟩ := hA
  have h8 := hC.F8
  unfold t_W_main_1502
  refine s_X_restore_0 ?_
  unfold t_X_restore_0
  rw [m2]
  match m, m1, m2, m3, m4 with
  | 0, m1, m2, m3, m4 =>
    refine bq_t rfl ?_
    refine s_M_restore_0 ?_
    unfold t_M_restore_0
    refine bq_t m3 ?_
    exact bq_t rfl (hn _ _ (Inv.ro (ro_thrown I 0) ⟨F, S, n, cd, hA0⟩) (TI_s hT))
  | m + 1, m1, m2, m3, m4 =>
    refine bq_f (nI_ne0 (by omega) (by omega)) ?_
    refine s_Search_forget_0 ?_
    refine s_Shelf_takeImage_28_0 ?_
    unfold t_Shelf_takeImage_28_0 t_Shelf_takeImage_28_40
    have k1 : (m_up I 36 5 0) 32 4 = nI (m + 1) := m2
    rw [k1, nI_pred]
    refine bq_f (nI_nle (by omega) (by omega)) (bq_f (nI_nlt (a := 3) (b := m + 1) (by omega) (by omega)) ?_)
    have k3 : (m_up (m_up I 36 5 0) 32 4 (nI m)) 32 4 = nI m := rfl
    rw [k3, m493, nI_clamp (by omega)]
    refine ⟨⟨nI_pos (by omega), by decide, by decide, by show 493 * m + 464 ≤ 1479; omega, by decide⟩, ?_⟩
    rw [← m493]
    refine p_load34 (by omega) ?_
    show (_ ∧ _) ∧ _
    generalize hH : m_row (m_row (m_up (m_up I 36 5 0) 32 4 (nI m)) 33 (va_cpy ((m_up (m_up I 36 5 0) 32 4 (nI m)) 34) ((m_up (m_up I 36 5 0) 32 4 (nI m)) 33) (493 * m) 0 464)) 29 (va_cpy ((m_row (m_up (m_up I 36 5 0) 32 4 (nI m)) 33 (va_cpy ((m_up (m_up I 36 5 0) 32 4 (nI m)) 34) ((m_up (m_up I 36 5 0) 32 4 (nI m)) 33) (493 * m) 0 464)) 34) ((m_row (m_up (m_up I 36 5 0) 32 4 (nI m)) 33 (va_cpy ((m_up (m_up I 36 5 0) 32 4 (nI m)) 34) ((m_up (m_up I 36 5 0) 32 4 (nI m)) 33) (493 * m) 0 464)) 29) (493 * m + 464) 0 29) = H
    have h32 : H 32 4 = nI m := by subst hH; rfl
    obtain ⟨w, w1, w2, w3, w4, w5, w6⟩ := m4 m (by omega)
    have h35 : H 35 m = nI w := by subst hH; exact w2
    rw [h32, nI_clamp (by omega), h35]
    refine ⟨⟨nI_pos (by omega), by omega⟩, ?_⟩
    show ev E 331 0 [some (.ref 46)] [] _ T _
    generalize hJ : m_up (m_up H 32 3 (nI w)) 0 13 0 = J
    have fJ : FR [36, 32, 33, 29, 0] I J := by
      subst hJ; subst hH
      exact (((((FR.up (by decide) _ _).trans (FR.up (by decide) _ _)).trans (FR.row (by decide) _)).trans (FR.row (by decide) _)).trans (FR.up (by decide) _ _)).trans (FR.up (by decide) _ _)
    have j32 : J 32 = fun j => if j = 3 then nI w else if j = 4 then nI m else I 32 j := by subst hJ; subst hH; rfl
    have j0 : J 0 = fun j => if j = 13 then 0 else I 0 j := by subst hJ; subst hH; rfl
    have j36 : J 36 5 = 0 := by subst hJ; subst hH; rfl
    have j33 : ∀ q, q < 464 → J 33 q = I 34 (493 * m + q) := fun q hq => by
      subst hJ; subst hH
      show va_cpy (I 34) (I 33) (493 * m) 0 464 q = _
      rw [pk_cpy_in (by omega) (by omega), Nat.sub_zero]
    have j29 : ∀ q, q < 29 → J 29 q = I 34 (493 * m + 464 + q) := fun q hq => by
      subst hJ; subst hH
      show va_cpy (I 34) (I 29) (493 * m + 464) 0 29 q = _
      rw [pk_cpy_in (by omega) (by omega), Nat.sub_zero]
    have j46 : J 46 = I 46 := fJ 46 (by decide)
    refine s_M_restore_0 ?_
    unfold t_M_restore_0
    have k2 : (m_up J 46 0 0) 46 36 = nI (m + 1) := by show J 46 36 = _; rw [j46]; exact m3
    rw [k2, nI_pred]
    refine bq_f (nI_ne0 (by omega) (by omega)) ?_
    have k4 : (m_up (m_up J 46 0 0) 46 36 (nI m)) 46 36 = nI m := rfl
    rw [k4, nI_clamp (by omega)]
    refine ⟨⟨nI_pos (by omega), by omega⟩, ?_⟩
    refine p_putsAll1 (KF_527 (by omega)) (by omega) (fun L hL => ?_)
    obtain ⟨l1, l2, l3, l4, l5, l6⟩ := hL
    show (_ → t_W_main_1543 E _ T Q (nI i)) ∧ (¬ _ → _)
    generalize hKK : m_up L 46 35 0 = K
    have cx : (m_up (m_up J 46 0 0) 46 36 (nI m)) (528 + m) = I (528 + m) := by
      rw [m_up_ne (by omega), m_up_ne (by omega)]; exact fJ (528 + m) (by simp; omega)
    have fK : ∀ c, c ≠ 46 → c ≠ 508 → ¬ (511 ≤ c ∧ c < 527) → K c = J c := fun c h1 h2 h3 => by
      subst hKK
      rw [m_up_ne h1, l1 c h1 h2 h3, m_up_ne h1, m_up_ne h1]
    have fa : ∀ c, c ∉ [36, 32, 33, 29, 0, 46, 508] → ¬ (511 ≤ c ∧ c < 527) → K c = I c := fun c hc h => by
      rw [fK c (by simp at hc; omega) (by simp at hc; omega) h, fJ c (by simp at hc ⊢; omega)]
    have k46 : ∀ j, j ≠ 0 → j ≠ 34 → j ≠ 35 → j ≠ 36 → j ≠ 37 → K 46 j = I 46 j := fun j a b c d e => by
      subst hKK
      rw [m_up_at, if_neg c, l2 j e b, m_up_at, if_neg d, m_up_at, if_neg a, j46]
    have k34 : K 46 34 = nI w := by
      subst hKK
      show L 46 34 = _
      rw [l4 (by omega), cx]; exact w3
    have k35 : K 46 35 = 0 := by subst hKK; rfl
    have k36 : K 46 36 = nI m := by
      subst hKK
      show L 46 36 = _
      rw [l2 36 (by decide) (by decide)]; rfl
    have k508 : ∀ j, j < 29 → K 508 j = I (528 + m) (1 + j) := fun j hj => by
      subst hKK
      rw [m_up_ne (by decide), l5 j hj (by omega), cx]
    have k511 : ∀ k j, k < 16 → j < 29 → K (511 + k) j = I (528 + m) (30 + 29 * k + j) := fun k j hk hj => by
      subst hKK
      rw [m_up_ne (by omega), l6 k j hk hj (by omega), cx]
    have k32 : K 32 = J 32 := fK 32 (by decide) (by decide) (by omega)
    have k29 : K 29 = J 29 := fK 29 (by decide) (by decide) (by omega)
    have k33 : K 33 = J 33 := fK 33 (by decide) (by decide) (by omega)
    have k0 : K 0 = J 0 := fK 0 (by decide) (by decide) (by omega)
    have hR : rowR (K 29) (K 508) := w4.eq (fun j hj => by rw [k29]; exact j29 j hj) k508
    have hV : rowV (K 29) F S := w5.eq h8 (fun j hj => by rw [k29]; exact j29 j hj)
    refine bq_t (by rw [k36, j32]; rfl) (hn K T ⟨F, S, n, cd, ?_, ?_, ⟨w, w1, ?_, k34, fun k hk => ⟨?_, ?_⟩⟩, ⟨m, by omega, ?_, k36, fun u hu => ?_⟩, ?_, ⟨?_, ?_, ?_⟩, Sr.zero (by rw [fK 36 (by decide) (by decide) (by omega)]; exact j36)⟩ (TI_s hT))
    · exact hC.of (fun c hc => fa c (by unfold coreC at hc; simp; omega) (by unfold coreC at hc; omega)) (k46 19 (by decide) (by decide) (by decide) (by decide) (by decide)) hR hV
    · exact hB.of (fun c hc => fa c (by unfold bookC at hc; simp; omega) (by unfold bookC at hc; omega)) (k46 33 (by decide) (by decide) (by decide) (by decide) (by decide))
    · rw [k32, j32]; rfl
    · refine (w6 k hk).1.eq (fun j hj => ?_) (fun j hj => k511 k j (by omega) hj)
      show K 33 (29 * k + j) = I 34 (493 * m + 29 * k + j)
      rw [k33, j33 _ (by omega), Nat.add_assoc]
    · refine (w6 k hk).2.eq h8 (fun j hj => ?_)
      show K 33 (29 * k + j) = I 34 (493 * m + 29 * k + j)
      rw [k33, j33 _ (by omega), Nat.add_assoc]
    · rw [k32, j32]; rfl
    · rw [fa 34 (by decide) (by omega), fa 35 (by decide) (by omega), fa (528 + u) (by simp; omega) (by omega)]
      exact m4 u (by omega)
    · exact hTx.of (fa 2 (by decide) (by omega)) (fa 47 (by decide) (by omega)) (by rw [fa 1 (by decide) (by omega)]) (by rw [fa 1 (by decide) (by omega)]) (k46 1 (by decide) (by decide) (by decide) (by decide) (by decide)) (k46 3 (by decide) (by decide) (by decide) (by decide) (by decide))
    · rw [k0, j0, k35]; rfl
    · rw [k0, j0, fa 48 (by decide) (by omega)]; exact hCt.2.1
    · rw [k0, j0, fa 48 (by decide) (by omega)]; exact hCt.2.2
end IMG
