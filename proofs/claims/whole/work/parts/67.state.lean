/-! ===== calls that change what is: undo, image, restore ===== -/
def coreC (c : Nat) : Prop := (3 ≤ c ∧ c ≤ 8) ∨ (15 ≤ c ∧ c ≤ 16) ∨ c = 50 ∨ (61 ≤ c ∧ c < 69) ∨ (77 ≤ c ∧ c < 83) ∨ c = 84 ∨ (86 ≤ c ∧ c < 236)
def bookC (c : Nat) : Prop := c = 20 ∨ c = 21 ∨ (408 ≤ c ∧ c < 416)
def shelC (c : Nat) : Prop := c = 33 ∨ (511 ≤ c ∧ c < 527)
def imagC (c : Nat) : Prop := c = 34 ∨ c = 35 ∨ (528 ≤ c ∧ c < 531)
theorem Core.of {B K : II} {F S n : Nat} {cd : Nat → Nat × Int32} (h : Core B F S n cd) (e : ∀ c, coreC c → K c = B c) (e19 : K 46 19 = B 46 19) (hR : rowR (K 29) (K 508)) (hV : rowV (K 29) F S) : Core K F S n cd := by
  obtain ⟨h1, h2, ⟨⟨dep, hw⟩, hc, hm⟩, h4, h5, h6, -, -⟩ := h
  have b1 := h1.2.1
  have b2 := h1.2.2.2
  have e3 : K 3 = B 3 := e 3 (by unfold coreC; omega)
  have e4 : K 4 = B 4 := e 4 (by unfold coreC; omega)
  have e5 : K 5 = B 5 := e 5 (by unfold coreC; omega)
  have e6 : K 6 = B 6 := e 6 (by unfold coreC; omega)
  have e7 : K 7 = B 7 := e 7 (by unfold coreC; omega)
  have e8 : K 8 = B 8 := e 8 (by unfold coreC; omega)
  have e50 : K 50 = B 50 := e 50 (by unfold coreC; omega)
  have e84 : K 84 = B 84 := e 84 (by unfold coreC; omega)
  refine ⟨?_, ?_, ⟨⟨dep, hw⟩, ⟨by rw [e 15 (by unfold coreC; omega)]; exact hc.1, fun k hk => by rw [e 16 (by unfold coreC; omega)]; exact hc.2 k hk⟩, ?_⟩, fun f hf => ?_, fun s hs => ?_, ?_, hR, hV⟩
  · unfold hN; rw [e3]; exact h1
  · unfold mN; rw [e50]; exact h2
  · rcases hm with ⟨k1, hm⟩ | ⟨k1, k2, k3⟩
    · have := hw.2.2.1
      exact Or.inl ⟨k1, by rw [e19]; exact hm.1, fun k hk => by rw [e (86 + k) (by unfold coreC; omega)]; exact hm.2 k hk⟩
    · exact Or.inr ⟨by rw [e19]; exact k1, k2, k3⟩
  · rw [e (61 + f) (by unfold coreC; omega), e4, e5, e6, e84]; exact h4 f hf
  · rw [e (77 + s) (by unfold coreC; omega), e7, e8]; exact h5 s hs
  · rw [e50, e3]; exact h6
theorem Bk.of {B K : II} {F : Nat} (h : Bk B F) (e : ∀ c, bookC c → K c = B c) (e33 : K 46 33 = B 46 33) : Bk K F := by
  obtain ⟨k, h1, h2, h3, h4, h5⟩ := h
  refine ⟨k, h1, by rw [e 20 (by unfold bookC; omega)]; exact h2, by rw [e33]; exact h3, fun j hj => ?_, fun f hf => ?_⟩
  · rw [e (408 + j) (by unfold bookC; omega), e 21 (by unfold bookC; omega)]; exact h4 j hj
  · rw [e 21 (by unfold bookC; omega)]
    rcases h5 f hf with q | ⟨j, q1, q2⟩
    · exact Or.inl q
    · exact Or.inr ⟨j, q1, by rw [e (408 + j) (by unfold bookC; omega)]; exact q2⟩
theorem Sh.of {B K : II} {F S : Nat} (h : Sh B F S) (e : ∀ c, shelC c → K c = B c) (e1 : K 32 3 = B 32 3) (e2 : K 46 34 = B 46 34) : Sh K F S := by
  obtain ⟨w, h1, h2, h3, h4⟩ := h
  refine ⟨w, h1, by rw [e1]; exact h2, by rw [e2]; exact h3, fun k hk => ?_⟩
  rw [e 33 (by unfold shelC; omega), e (511 + k) (by unfold shelC; omega)]; exact h4 k hk
theorem Im.of {B K : II} {F S : Nat} (h : Im B F S) (e : ∀ c, imagC c → K c = B c) (e1 : K 32 4 = B 32 4) (e2 : K 46 36 = B 46 36) : Im K F S := by
  obtain ⟨m, h1, h2, h3, h4⟩ := h
  refine ⟨m, h1, by rw [e1]; exact h2, by rw [e2]; exact h3, fun i hi => ?_⟩
  rw [e 34 (by unfold imagC; omega), e 35 (by unfold imagC; omega), e (528 + i) (by unfold imagC; omega)]; exact h4 i hi
theorem Tx.of {B K : II} (h : Tx B) (e2 : K 2 = B 2) (e47 : K 47 = B 47) (a : K 1 1 = B 1 1) (b : K 1 6 = B 1 6) (c : K 46 1 = B 46 1) (d : K 46 3 = B 46 3) : Tx K := by
  obtain ⟨h0, t, h1, h2, h3, h4⟩ := h
  refine ⟨by rw [b, d]; exact h0, t, h1, by rw [a]; exact h2, by rw [c]; exact h3, fun j hj => ?_⟩
  rw [e2, e47]; exact h4 j hj
theorem Sr.zero {K : II} {F S n : Nat} {cd : Nat → Nat × Int32} (h : K 36 5 = 0) : Sr K F S n cd := by
  refine ⟨⟨0, by omega, h⟩, fun s _ q => ?_⟩
  rw [h] at q
  have : ∀ y : Int32, (((0 : Int32) >>> y) &&& 1) ≠ 1 := fun y z => by
    have h0 : ((0 : Int32) >>> y) = 0 := by
      apply Int32.toBitVec_inj.1
      show BitVec.sshiftRight' (0 : BitVec 32) _ = 0
      simp
    rw [h0] at z
    exact absurd z (by decide)
  exact absurd q (this _)
theorem up_same {I : II} {c j : Nat} {v : Int32} (h : I c j = v) : m_up I c j v = I := by
  funext c' j'
  unfold m_up
  by_cases e : c' = c
  · subst e
    simp only [if_true]
    by_cases e2 : j' = j
    · rw [if_pos e2, e2, h]
    · rw [if_neg e2]
  · rw [if_neg e]
section STATE
variable {E : MEnv} {B I : II} {T : TT} {Q : QQ} {F S n : Nat} {cd : Nat → Nat × Int32}
theorem p_load33 {w : Nat} (hw : w ≤ 15) (hq : Q (.inl none) (m_row I 29 (va_cpy (I 33) (I 29) (29 * w) 0 29)) T) : ev E 178 0 [some (.ref 28), some (.ref 33), some (.int (nI w * 29))] [] I T Q := by
  refine s_Coach_loadFrom_28_33_0 ?_
  unfold t_Coach_loadFrom_28_33_0 t_Coach_loadFrom_28_33_15
  have e : (nI w * 29 : Int32) = nI (29 * w) := by
    have : (nI w * 29 : Int32) = nI (w * 29) := pk_mul w 29
    rw [this, Nat.mul_comm]
  rw [e, nI_clamp (by omega)]
  refine bq_f (nI_pos (by omega)) (bq_f (nI_nlt (a := 435) (b := 29 * w) (by omega) (by omega)) ⟨⟨nI_pos (by omega), by decide, by decide, by show 29 * w + 29 ≤ 464; omega, by decide⟩, hq⟩)
theorem p_save33 {w : Nat} (hw : w ≤ 15) (hq : Q (.inl none) (m_row I 33 (va_cpy (I 29) (I 33) 0 (29 * w) 29)) T) : ev E 100 0 [some (.ref 28), some (.ref 33), some (.int (nI w * 29))] [] I T Q := by
  refine s_Coach_saveTo_28_33_0 ?_
  unfold t_Coach_saveTo_28_33_0 t_Coach_saveTo_28_33_15
  have e : (nI w * 29 : Int32) = nI (29 * w) := by
    have : (nI w * 29 : Int32) = nI (w * 29) := pk_mul w 29
    rw [this, Nat.mul_comm]
  rw [e, nI_clamp (by omega)]
  refine bq_f (nI_pos (by omega)) (bq_f (nI_nlt (a := 435) (b := 29 * w) (by omega) (by omega)) ⟨⟨by decide, nI_pos (by omega), by decide, by decide, by show 29 * w + 29 ≤ 464; omega⟩, hq⟩)
theorem m493 (m : Nat) : (nI m * 493 : Int32) = nI (493 * m) := by
  have : (nI m * 493 : Int32) = nI (m * 493) := pk_mul m 493
  rw [this, Nat.mul_comm]
theorem m493b (m : Nat) : (nI m * 493 + 464 : Int32) = nI (493 * m + 464) := by rw [m493]; exact nI_add (493 * m) 464
theorem p_load34 {m : Nat} (hm : m ≤ 2) (hq : Q (.inl none) (m_row I 29 (va_cpy (I 34) (I 29) (493 * m + 464) 0 29)) T) : ev E 178 0 [some (.ref 28), some (.ref 34), some (.int (nI m * 493 + 464))] [] I T Q := by
  refine s_Coach_loadFrom_28_34_0 ?_
  unfold t_Coach_loadFrom_28_34_0 t_Coach_loadFrom_28_34_15
  rw [m493b, nI_clamp (by omega)]
  refine bq_f (nI_pos (by omega)) (bq_f (nI_nlt (a := 1450) (b := 493 * m + 464) (by omega) (by omega)) ⟨⟨nI_pos (by omega), by decide, by decide, by show 493 * m + 464 + 29 ≤ 1479; omega, by decide⟩, hq⟩)
theorem p_save34 {m : Nat} (hm : m ≤ 2) (hq : Q (.inl none) (m_row I 34 (va_cpy (I 29) (I 34) 0 (493 * m + 464) 29)) T) : ev E 100 0 [some (.ref 28), some (.ref 34), some (.int (nI m * 493 + 464))] [] I T Q := by
  refine s_Coach_saveTo_28_34_0 ?_
  unfold t_Coach_saveTo_28_34_0 t_Coach_saveTo_28_34_15
  rw [m493b, nI_clamp (by omega)]
  refine bq_f (nI_pos (by omega)) (bq_f (nI_nlt (a := 1450) (b := 493 * m + 464) (by omega) (by omega)) ⟨⟨by decide, nI_pos (by omega), by decide, by decide, by show 493 * m + 464 + 29 ≤ 1479; omega⟩, hq⟩)
theorem l_cpR8 {x : Nat} (hK : m_K x = (1, 29)) (hx : x ≠ 508) : ∀ (d k : Nat) (r : Nat → Int32), k + d = 29 → Q (.inl none) (m_row I 508 (rep (fun j r => upd r j (I x j)) d k r)) T → t_M_copies_R_508_2 E (m_row I 508 r) T Q x (nI k)
  | 0, k, r, hk, hq => by
    unfold t_M_copies_R_508_2
    exact bq_t (nI_le (a := 29) (b := k) (by omega) (by omega)) hq
  | d + 1, k, r, hk, hq => by
    have e1 : ∀ j, (m_row I 508 r) x j = I x j := fun j => by rw [m_row_ne hx]
    unfold t_M_copies_R_508_2
    refine bq_f (nI_ge (a := k) (b := 29) (by omega) (by omega)) ⟨gix (by omega) (by omega), gix (by omega) (by omega), ?_⟩
    rw [nI_clamp (by omega), up_row, e1, nI_1]
    rw [rep] at hq
    exact s_M_copies_R_508_2 hK (l_cpR8 hK hx d (k + 1) _ (by omega) hq)
theorem p_copiesR8 {x : Nat} (hK : m_K x = (1, 29)) (hx : x ≠ 508) (hq : ∀ r, (∀ j, j < 29 → r j = I x j) → Q (.inl none) (m_row I 508 r) T) : ev E 147 0 [some (.ref x), some (.ref 508), none] [] I T Q := by
  refine s_M_copies_R_508_0 hK ?_
  unfold t_M_copies_R_508_0
  have := l_cpR8 (E := E) (Q := Q) (T := T) (I := I) hK hx 29 0 (I 508) (by omega) (hq _ (fun j hj => by rw [rep_upd, if_pos (by omega)]))
  rw [row_self] at this
  exact this
theorem l_cp8R {x : Nat} (hK : m_K x = (1, 29)) (hx : x ≠ 508) : ∀ (d k : Nat) (r : Nat → Int32), k + d = 29 → Q (.inl none) (m_row I x (rep (fun j r => upd r j (I 508 j)) d k r)) T → t_M_copies_508_R_2 E (m_row I x r) T Q x (nI k)
  | 0, k, r, hk, hq => by
    unfold t_M_copies_508_R_2
    exact bq_t (nI_le (a := 29) (b := k) (by omega) (by omega)) hq
  | d + 1, k, r, hk, hq => by
    have e1 : ∀ j, (m_row I x r) 508 j = I 508 j := fun j => by rw [m_row_ne (fun e => hx e.symm)]
    unfold t_M_copies_508_R_2
    refine bq_f (nI_ge (a := k) (b := 29) (by omega) (by omega)) ⟨gix (by omega) (by omega), gix (by omega) (by omega), ?_⟩
    rw [nI_clamp (by omega), up_row, e1, nI_1]
    rw [rep] at hq
    exact s_M_copies_508_R_2 hK (l_cp8R hK hx d (k + 1) _ (by omega) hq)
theorem p_copies8R {x : Nat} (hK : m_K x = (1, 29)) (hx : x ≠ 508) (hq : ∀ r, (∀ j, j < 29 → r j = I 508 j) → Q (.inl none) (m_row I x r) T) : ev E 147 0 [some (.ref 508), some (.ref x), none] [] I T Q := by
  refine s_M_copies_508_R_0 hK ?_
  unfold t_M_copies_508_R_0
  have := l_cp8R (E := E) (Q := Q) (T := T) (I := I) hK hx 29 0 (I x) (by omega) (hq _ (fun j hj => by rw [rep_upd, if_pos (by omega)]))
  rw [row_self] at this
  exact this
theorem rowR.eq {r q a b : Nat → Int32} (h : rowR r q) (h1 : ∀ j, j < 29 → a j = r j) (h2 : ∀ j, j < 29 → b j = q j) : rowR a b := by
  obtain ⟨t1, t2, t3, t4⟩ := h
  refine ⟨fun j hj => ?_, ?_, ?_, ?_⟩
  · rw [h2 j (by omega), h1 j (by omega)]; exact t1 j hj
  · rw [h2 26 (by omega), h1 28 (by omega)]; exact t2
  · rw [h2 27 (by omega), h1 27 (by omega)]; exact t3
  · rw [h2 28 (by omega), h1 26 (by omega)]; exact t4
theorem rowV.eq {r a : Nat → Int32} {F S : Nat} (hF : F ≤ 8) (h : rowV r F S) (h1 : ∀ j, j < 29 → a j = r j) : rowV a F S := by
  refine (h.w.congr hF (fun j hj => h1 j (by omega))).v ?_
  rw [h1 25 (by omega)]; exact h.2.2.2.2
theorem o_undo : op_ok Inv E t_W_main_229 := by
  intro I T Q i m hI hT hm hi hL hn
  obtain ⟨F, S, n, cd, hA⟩ := hI
  obtain ⟨hC, hB, ⟨w, w1, w2, w3, w4⟩, hIm, hTx, hCt, hSr⟩ := hA
  have hA : InvA I F S n cd := ⟨hC, hB, ⟨w, w1, w2, w3, w4⟩, hIm, hTx, hCt, hSr⟩
  have h8 := hC.F8
  unfold t_W_main_229
  refine s_X_undo_0 ?_
  unfold t_X_undo_0
  rw [w2]
  match w, w1, w2, w3, w4 with
  | 0, w1, w2, w3, w4 =>
    refine bq_t rfl ?_
    refine s_M_undo_0 ?_
    unfold t_M_undo_0
    refine bq_t w3 ?_
    exact bq_t rfl (hn _ _ (Inv.ro (ro_thrown I 0) ⟨F, S, n, cd, hA⟩) (TI_s hT))
  | w + 1, w1, w2, w3, w4 =>
    refine bq_f (nI_ne0 (by omega) (by omega)) ?_
    refine s_Search_forget_0 ?_
    refine s_Shelf_takeWork_28_0 ?_
    unfold t_Shelf_takeWork_28_0 t_Shelf_takeWork_28_17
    have k1 : (m_up I 36 5 0) 32 3 = nI (w + 1) := w2
    rw [k1]
    refine bq_f (nI_nle (by omega) (by omega)) ?_
    rw [nI_pred]
    show ev E 178 0 [some (.ref 28), some (.ref 33), some (.int (nI w * 29))] [] _ T _
    refine p_load33 (by omega) ?_
    show ev E 179 0 [some (.ref 46)] [] _ T _
    generalize hJ : m_up (m_row (m_up (m_up I 36 5 0) 32 3 (nI w)) 29 (va_cpy ((m_up (m_up I 36 5 0) 32 3 (nI w)) 33) ((m_up (m_up I 36 5 0) 32 3 (nI w)) 29) (29 * w) 0 29)) 0 13 0 = J
    have fJ : FR [0, 29, 32, 36] I J := by
      subst hJ
      exact (((FR.up (by decide) _ _).trans (FR.up (by decide) _ _)).trans (FR.row (by decide) _)).trans (FR.up (by decide) _ _)
    have j32 : J 32 = fun j => if j = 3 then nI w else I 32 j := by subst hJ; rfl
    have j36 : J 36 5 = 0 := by subst hJ; rfl
    have j0 : J 0 = fun j => if j = 13 then 0 else I 0 j := by subst hJ; rfl
    have j29 : ∀ j, j < 29 → J 29 j = I 33 (29 * w + j) := fun j hj => by
      subst hJ
      show va_cpy (I 33) (I 29) (29 * w) 0 29 j = _
      rw [pk_cpy_in (by omega) (by omega), Nat.sub_zero]
    have j46 : J 46 = I 46 := fJ 46 (by decide)
    refine s_M_undo_0 ?_
    unfold t_M_undo_0
    have k2 : (m_up J 46 0 0) 46 34 = nI (w + 1) := by show J 46 34 = _; rw [j46]; exact w3
    rw [k2, nI_pred]
    refine bq_f (nI_ne0 (by omega) (by omega)) ?_
    have k3 : (m_up (m_up J 46 0 0) 46 34 (nI w)) 46 34 = nI w := rfl
    rw [k3, nI_clamp (by omega)]
    refine ⟨⟨nI_pos (by omega), by omega⟩, ?_⟩
    refine p_copiesR8 (KF_510 (by omega)) (by omega) (fun r hr => ?_)
    have c511 : (m_up (m_up J 46 0 0) 46 34 (nI w)) (511 + w) = I (511 + w) := by
      rw [m_up_ne (by omega), m_up_ne (by omega)]
      exact fJ (511 + w) (by simp; omega)
    rw [c511] at hr
    show (_ → t_W_main_1543 E _ T Q (nI i)) ∧ (¬ _ → _)
    generalize hKK : m_up (m_row (m_up (m_up J 46 0 0) 46 34 (nI w)) 508 r) 46 35 0 = K
    have fK : FR [46, 508] J K := by
      subst hKK
      exact (((FR.up (by decide) _ _).trans (FR.up (by decide) _ _)).trans (FR.row (by decide) _)).trans (FR.up (by decide) _ _)
    have fa : ∀ c, c ∉ [0, 29, 32, 36, 46, 508] → K c = I c := fun c hc => by
      rw [fK c (by simp at hc ⊢; omega), fJ c (by simp at hc ⊢; omega)]
    have k46 : ∀ j, j ≠ 0 → j ≠ 34 → j ≠ 35 → K 46 j = I 46 j := fun j a b c => by
      subst hKK
      rw [m_up_at, if_neg c]
      show (m_up (m_up J 46 0 0) 46 34 (nI w)) 46 j = _
      rw [m_up_at, if_neg b, m_up_at, if_neg a, j46]
    have k34 : K 46 34 = nI w := by subst hKK; rfl
    have k35 : K 46 35 = 0 := by subst hKK; rfl
    have k508 : K 508 = r := by subst hKK; rfl
    have k29 : K 29 = J 29 := fK 29 (by decide)
    have k32 : K 32 = J 32 := fK 32 (by decide)
    have k0 : K 0 = J 0 := fK 0 (by decide)
    obtain ⟨wr, wv⟩ := w4 w (by omega)
    have hR : rowR (K 29) (K 508) := wr.eq (fun j hj => by rw [k29]; exact j29 j hj) (fun j hj => by rw [k508]; exact hr j hj)
    have hV : rowV (K 29) F S := wv.eq h8 (fun j hj => by rw [k29]; exact j29 j hj)
    refine bq_t (by rw [k34, j32]; rfl) (hn K T ⟨F, S, n, cd, ?_, ?_, ⟨w, by omega, ?_, k34, fun k hk => ?_⟩, ?_, ?_, ⟨?_, ?_, ?_⟩, Sr.zero (by rw [fK 36 (by decide)]; exact j36)⟩ (TI_s hT))
    · exact hC.of (fun c hc => fa c (by unfold coreC at hc; simp; omega)) (k46 19 (by decide) (by decide) (by decide)) hR hV
    · exact hB.of (fun c hc => fa c (by unfold bookC at hc; simp; omega)) (k46 33 (by decide) (by decide) (by decide))
    · rw [k32, j32]; rfl
    · rw [fa 33 (by decide), fa (511 + k) (by simp; omega)]; exact w4 k (by omega)
    · exact hIm.of (fun c hc => fa c (by unfold imagC at hc; simp; omega)) (by rw [k32, j32]; rfl) (k46 36 (by decide) (by decide) (by decide))
    · exact hTx.of (fa 2 (by decide)) (fa 47 (by decide)) (by rw [fa 1 (by decide)]) (by rw [fa 1 (by decide)]) (k46 1 (by decide) (by decide) (by decide)) (k46 3 (by decide) (by decide) (by decide))
    · rw [k0, j0, k35]; rfl
    · rw [k0, j0, fa 48 (by decide)]; exact hCt.2.1
    · rw [k0, j0, fa 48 (by decide)]; exact hCt.2.2
end STATE
