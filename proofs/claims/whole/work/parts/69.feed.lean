/-! ===== feed ===== -/
/-- byte i of a number -/
def bt (v : Int32) (i : Nat) : Nat := v.toBitVec.toNat / 2 ^ (24 - 8 * i) % 256
theorem bt_lt (v : Int32) (i : Nat) : bt v i < 256 := Nat.mod_lt _ (by decide)
theorem bt_c (v sh : Int32) {i : Nat} (hs : ((sh.toUInt32 &&& Int32.toUInt32 31).toBitVec % 32).toNat = 24 - 8 * i) : (i_ushr v sh).toInt8.toInt32.toInt8.toInt32 = (nI (bt v i)).toInt8.toInt32 := by
  rw [fb_byte_twice, ← fa_byte_low]
  have h1 := pk_and (i_ushr v sh) (m := 255) 8 (by decide)
  rw [h1]
  have h2 := pk_ushr v sh (24 - 8 * i) hs
  have h3 : (i_ushr v sh).toBitVec.toNat = v.toBitVec.toNat / 2 ^ (24 - 8 * i) := h2
  rw [h3]
  rfl
theorem bt_m (x sh : Int32) {i : Nat} (hi : i < 4) (hs : (sh.toBitVec.smod 32).toNat = 24 - 8 * i) : (x >>> sh) &&& 255 = nI (bt x i) := by
  have h1 := pk_and (x >>> sh) (m := 255) 8 (by decide)
  have h2 := pk_shr x sh (24 - 8 * i) hs
  rw [h1]
  have e1 : x.toInt = if x.toBitVec.toNat < 2147483648 then (x.toBitVec.toNat : Int) else (x.toBitVec.toNat : Int) - 4294967296 := by
    show x.toBitVec.toInt = _
    rw [BitVec.toInt_eq_toNat_cond]
    split
    · rw [if_pos (by omega)]
    · rw [if_neg (by omega)]; rfl
  generalize hy : x >>> sh = y at h2 ⊢
  have e2 : y.toInt = if y.toBitVec.toNat < 2147483648 then (y.toBitVec.toNat : Int) else (y.toBitVec.toNat : Int) - 4294967296 := by
    show y.toBitVec.toInt = _
    rw [BitVec.toInt_eq_toNat_cond]
    split
    · rw [if_pos (by omega)]
    · rw [if_neg (by omega)]; rfl
  rw [Int.shiftRight_eq_div_pow] at h2
  have hx := x.toBitVec.isLt
  have hyl := y.toBitVec.isLt
  unfold bt
  congr 1
  generalize x.toBitVec.toNat = a at e1 hx ⊢
  generalize y.toBitVec.toNat = b at e2 hyl ⊢
  rw [e1, e2] at h2
  match i, hi with
  | 0, _ =>
    have e3 : ((2 ^ (24 - 8 * 0) : Nat) : Int) = 16777216 := rfl
    have e4 : (2 : Nat) ^ (24 - 8 * 0) = 16777216 := rfl
    have e5 : (2 : Nat) ^ 8 = 256 := rfl
    rw [e3] at h2
    rw [e4, e5]
    split at h2 <;> split at h2 <;> omega
  | 1, _ =>
    have e3 : ((2 ^ (24 - 8 * 1) : Nat) : Int) = 65536 := rfl
    have e4 : (2 : Nat) ^ (24 - 8 * 1) = 65536 := rfl
    have e5 : (2 : Nat) ^ 8 = 256 := rfl
    rw [e3] at h2
    rw [e4, e5]
    split at h2 <;> split at h2 <;> omega
  | 2, _ =>
    have e3 : ((2 ^ (24 - 8 * 2) : Nat) : Int) = 256 := rfl
    have e4 : (2 : Nat) ^ (24 - 8 * 2) = 256 := rfl
    rw [e3] at h2
    rw [e4]
    split at h2 <;> split at h2 <;> omega
  | 3, _ =>
    have e3 : ((2 ^ (24 - 8 * 3) : Nat) : Int) = 1 := rfl
    have e4 : (2 : Nat) ^ (24 - 8 * 3) = 1 := rfl
    have e5 : (2 : Nat) ^ 8 = 256 := rfl
    rw [e3] at h2
    rw [e4, e5]
    split at h2 <;> split at h2 <;> omega
section FEED
variable {E : MEnv} {B I : II} {T : TT} {Q : QQ} {F S n : Nat} {cd : Nat → Nat × Int32}
def sI (i : Nat) : Int32 := [24, 16, 8, 0].getD i (-8)
theorem l_add (v : Int32) {t : Nat} (ht : t + 4 ≤ 600) : ∀ (d i : Nat) (J : II), i + d = 4 → FR [1, 2] I J → J 1 1 = nI (t + i) → (∀ j, j ≠ 1 → J 1 j = I 1 j) → (∀ q, J 2 q = if t ≤ q ∧ q < t + i then (nI (bt v (q - t))).toInt8.toInt32 else I 2 q) → (∀ K, FR [1, 2] I K → K 1 1 = nI (t + 4) → (∀ j, j ≠ 1 → K 1 j = I 1 j) → (∀ q, K 2 q = if t ≤ q ∧ q < t + 4 then (nI (bt v (q - t))).toInt8.toInt32 else I 2 q) → Q (.inl none) K T) → t_Text_add_2 E J T Q v (sI i)
  | 0, i, J, hi, h1, h2, h3, h4, hq => by
    have e : i = 4 := by omega
    subst e
    unfold t_Text_add_2
    exact bq_t (by decide) (hq J h1 h2 h3 h4)
  | d + 1, i, J, hi, h1, h2, h3, h4, hq => by
    unfold t_Text_add_2 t_Text_add_25
    have c0 : ∀ i : Fin 4, ¬ sI i.val < 0 ∧ sI i.val + (-8) = sI (i.val + 1) ∧ (((sI i.val).toUInt32 &&& Int32.toUInt32 31).toBitVec % 32).toNat = 24 - 8 * i.val := by decide +kernel
    obtain ⟨a1, a2, a3⟩ := c0 ⟨i, by omega⟩
    simp only at a1 a2 a3
    refine bq_f a1 ?_
    rw [h2, a2]
    refine bq_f (nI_ge (a := t + i) (b := 600) (by omega) (by omega)) ⟨gix (by omega) (by omega), ?_⟩
    rw [nI_clamp (by omega), bt_c v (sI i) a3]
    have k1 : (m_up J 2 (t + i) ((nI (bt v i)).toInt8.toInt32)) 1 1 = nI (t + i) := h2
    rw [k1, nI_1]
    refine s_Text_add_2 (l_add v ht d (i + 1) _ (by omega) (h1.trans ((FR.up (by decide) _ _).trans (FR.up (by decide) _ _))) rfl (fun j hj => ?_) (fun q => ?_) hq)
    · rw [m_up_at, if_neg hj]; exact h3 j hj
    · rw [m_up_ne (by decide), m_up_at]
      by_cases e : q = t + i
      · rw [if_pos e, if_pos (by omega), show q - t = i by omega]
      · rw [if_neg e, h4 q]
        by_cases c : t ≤ q ∧ q < t + i
        · rw [if_pos c, if_pos (by omega)]
        · rw [if_neg c, if_neg (by omega)]
theorem p_add (v : Int32) {t : Nat} (ht : t + 4 ≤ 600) (h1 : I 1 1 = nI t) (hq : ∀ K, FR [1, 2] I K → K 1 1 = nI (t + 4) → (∀ j, j ≠ 1 → K 1 j = I 1 j) → (∀ q, K 2 q = if t ≤ q ∧ q < t + 4 then (nI (bt v (q - t))).toInt8.toInt32 else I 2 q) → Q (.inl none) K T) : ev E 22 0 [some (.ref 1), some (.int v), none] [] I T Q :=
  s_Text_add_0 (l_add v ht 4 0 I (by omega) (FR.refl _ _) h1 (fun _ _ => rfl) (fun q => by rw [if_neg (by omega)]) hq)
/-- what is fed, so far -/
def xfH (I J : II) (t : Nat) (av : Nat → Int32) (k : Nat) : Prop := FR [1, 2] I J ∧ J 1 1 = nI (t + 4 * k) ∧ (∀ j, j ≠ 1 → J 1 j = I 1 j) ∧ ∀ q, J 2 q = if t ≤ q ∧ q < t + 4 * k then (nI (bt (av ((q - t) / 4)) ((q - t) % 4))).toInt8.toInt32 else I 2 q
theorem xf_S {J : II} {t k : Nat} {av : Nat → Int32} (h : xfH I J t av k) (hk : t + 4 * k + 4 ≤ 600) (hq : ∀ K, xfH I K t av (k + 1) → Q (.inl none) K T) : ev E 22 0 [some (.ref 1), some (.int (av k)), none] [] J T Q := by
  obtain ⟨a1, a2, a3, a4⟩ := h
  refine p_add (av k) hk a2 (fun K k1 k2 k3 k4 => hq K ⟨a1.trans k1, by rw [k2]; congr 1, fun j hj => by rw [k3 j hj, a3 j hj], fun q => ?_⟩)
  rw [k4 q]
  by_cases c : t + 4 * k ≤ q ∧ q < t + 4 * k + 4
  · rw [if_pos c, if_pos (by omega), show (q - t) / 4 = k by omega, show (q - t) % 4 = q - (t + 4 * k) by omega]
  · rw [if_neg c, a4 q]
    by_cases c2 : t ≤ q ∧ q < t + 4 * k
    · rw [if_pos c2, if_pos (by omega)]
    · rw [if_neg c2, if_neg (by omega)]
def mfH (I J : II) (t : Nat) (av : Nat → Int32) (k : Nat) : Prop := FR [46, 47] I J ∧ J 46 1 = nI (t + k) ∧ (∀ j, j ≠ 1 → J 46 j = I 46 j) ∧ ∀ q, J 47 q = if t ≤ q ∧ q < t + k then nI (bt (av ((q - t) / 4)) ((q - t) % 4)) else I 47 q
theorem l_mfeed {t : Nat} (ht : t + 20 ≤ 600) (av : Nat → Int32) : ∀ (d k : Nat) (J : II), k + d = 20 → mfH I J t av k → (∀ K, mfH I K t av 20 → Q (.inl (some (.int (K 46 1)))) K T) → t_M_feed_13 E J T Q (av 0) (av 1) (av 2) (av 3) (av 4) (nI k)
  | 0, k, J, hk, h, hq => by
    have e : k = 20 := by omega
    subst e
    unfold t_M_feed_13
    exact bq_t (by decide) (hq J h)
  | d + 1, k, J, hk, h, hq => by
    obtain ⟨a1, a2, a3, a4⟩ := h
    have body : ∀ y, y = av (k / 4) → t_M_feed_37 E J T Q (av 0) (av 1) (av 2) (av 3) (av 4) (nI k) y := by
      intro y hy
      subst hy
      unfold t_M_feed_37
      have e4 : nI k - nI k / 4 * 4 = nI (k % 4) := pk_rem (d := 4) (by omega) (by omega) (by omega)
      rw [a2, e4, nI_clamp (by omega), nI_1 k]
      have c0 : ∀ i : Fin 4, ((((24 : Int32) - (8 * nI i.val)) &&& 31).toBitVec.smod 32).toNat = 24 - 8 * i.val := by decide +kernel
      have hm : k % 4 < 4 := Nat.mod_lt _ (by omega)
      rw [bt_m _ _ hm (c0 ⟨k % 4, hm⟩)]
      refine ⟨⟨nI_pos (by omega), by omega⟩, ?_⟩
      have k1 : (m_up J 47 (t + k) (nI (bt (av (k / 4)) (k % 4)))) 46 1 = nI (t + k) := a2
      rw [k1, nI_1]
      refine s_M_feed_13 (l_mfeed ht av d (k + 1) _ (by omega) ⟨a1.trans ((FR.up (by decide) _ _).trans (FR.up (by decide) _ _)), rfl, fun j hj => ?_, fun q => ?_⟩ hq)
      · rw [m_up_at, if_neg hj]; exact a3 j hj
      · rw [m_up_ne (by decide), m_up_at]
        by_cases e : q = t + k
        · rw [if_pos e, if_pos (by omega), show q - t = k by omega]
        · rw [if_neg e, a4 q]
          by_cases c : t ≤ q ∧ q < t + k
          · rw [if_pos c, if_pos (by omega)]
          · rw [if_neg c, if_neg (by omega)]
    unfold t_M_feed_13
    refine bq_f (nI_ge (a := k) (b := 20) (by omega) (by omega)) ?_
    by_cases c4 : 4 ≤ k
    · refine bq_t (nI_le (a := 4) (b := k) c4 (by omega)) ?_
      by_cases c8 : 8 ≤ k
      · refine bq_t (nI_le (a := 8) (b := k) c8 (by omega)) ?_
        by_cases c12 : 12 ≤ k
        · refine bq_t (nI_le (a := 12) (b := k) c12 (by omega)) ?_
          by_cases c16 : 16 ≤ k
          · exact bq_t (nI_le (a := 16) (b := k) c16 (by omega)) (body _ (by rw [show k / 4 = 4 by omega]))
          · exact bq_f (nI_ge (a := k) (b := 16) (by omega) (by omega)) (body _ (by rw [show k / 4 = 3 by omega]))
        · exact bq_f (nI_ge (a := k) (b := 12) (by omega) (by omega)) (body _ (by rw [show k / 4 = 2 by omega]))
      · exact bq_f (nI_ge (a := k) (b := 8) (by omega) (by omega)) (body _ (by rw [show k / 4 = 1 by omega]))
    · exact bq_f (nI_ge (a := k) (b := 4) (by omega) (by omega)) (body _ (by rw [show k / 4 = 0 by omega]))
theorem o_feed : op_ok Inv E t_W_main_25 := by
  intro I T Q i m hI hT hm hi hL hn
  obtain ⟨F, S, n, cd, hA⟩ := hI
  have hA0 := hA
  obtain ⟨hC, hB, hSh, hIm, ⟨t0, t, t1, t2, t3, t4⟩, hCt, hSr⟩ := hA
  unfold t_W_main_25
  generalize E.2.2 (nI i + 1).toNatClampNeg = a1
  generalize E.2.2 (nI i + 2).toNatClampNeg = a2
  generalize E.2.2 (nI i + 3).toNatClampNeg = a3
  generalize E.2.2 (nI i + 4).toNatClampNeg = a4
  generalize E.2.2 (nI i + 5).toNatClampNeg = a5
  refine ⟨gsc 1 hi hL (by decide), gsc 2 hi hL (by decide), gsc 3 hi hL (by decide), gsc 4 hi hL (by decide), gsc 5 hi hL (by decide), ?_⟩
  refine s_X_feed_0 ?_
  unfold t_X_feed_0
  have e20 : (nI t + 20 : Int32) = nI (t + 20) := nI_add t 20
  rw [t2, e20]
  by_cases c : t + 20 ≤ 600
  · refine bq_t (nI_le (a := t + 20) (b := 600) c (by omega)) ?_
    let av : Nat → Int32 := fun k => [a1, a2, a3, a4, a5].getD k 0
    refine xf_S (av := av) (k := 0) (t := t) ⟨FR.refl _ _, t2, fun _ _ => rfl, fun q => by rw [if_neg (by omega)]⟩ (by omega) (fun J1 h1 => ?_)
    refine xf_S h1 (by omega) (fun J2 h2 => ?_)
    refine xf_S h2 (by omega) (fun J3 h3 => ?_)
    refine xf_S h3 (by omega) (fun J4 h4 => ?_)
    refine xf_S h4 (by omega) (fun J h5 => ?_)
    obtain ⟨b1, b2, b3, b4⟩ := h5
    refine ⟨gsc 1 hi hL (by decide), gsc 2 hi hL (by decide), gsc 3 hi hL (by decide), gsc 4 hi hL (by decide), gsc 5 hi hL (by decide), ?_⟩
    refine s_M_feed_0 ?_
    unfold t_M_feed_0
    have k1 : (m_up J 46 0 0) 46 1 = nI t := by show J 46 1 = _; rw [b1 46 (by decide)]; exact t3
    rw [k1, e20]
    refine bq_t (nI_le (a := t + 20) (b := 600) c (by omega)) ?_
    refine l_mfeed c av 20 0 _ (by omega) ⟨FR.refl _ _, k1, fun _ _ => rfl, fun q => by rw [if_neg (by omega)]⟩ (fun K hK => ?_)
    obtain ⟨c1, c2, c3, c4⟩ := hK
    have fa : ∀ x, x ∉ [1, 2, 46, 47] → K x = I x := fun x hx => by
      rw [c1 x (by simp at hx ⊢; omega), m_up_ne (by simp at hx; omega), b1 x (by simp at hx ⊢; omega)]
    have k46 : ∀ j, j ≠ 0 → j ≠ 1 → K 46 j = I 46 j := fun j x y => by rw [c3 j y, m_up_at, if_neg x, b1 46 (by decide)]
    have kk1 : K 1 = J 1 := c1 1 (by decide)
    have kk2 : K 2 = J 2 := c1 2 (by decide)
    have m47 : (m_up J 46 0 0) 47 = I 47 := by rw [m_up_ne (by decide)]; exact b1 47 (by decide)
    refine bq_t (by show J 1 1 = K 46 1; rw [b2, c2]) (hn K T ⟨F, S, n, cd, ?_, ?_, ?_, ?_, ⟨?_, t + 20, c, ?_, c2, fun j hj => ?_⟩, ⟨?_, ?_, ?_⟩, ?_⟩ (TI_s hT))
    · exact hC.of (fun x hx => fa x (by unfold coreC at hx; simp; omega)) (k46 19 (by decide) (by decide)) (by rw [fa 29 (by decide), fa 508 (by decide)]; exact hC.2.2.2.2.2.2.1) (by rw [fa 29 (by decide)]; exact hC.rv)
    · exact hB.of (fun x hx => fa x (by unfold bookC at hx; simp; omega)) (k46 33 (by decide) (by decide))
    · exact hSh.of (fun x hx => fa x (by unfold shelC at hx; simp; omega)) (by rw [fa 32 (by decide)]) (k46 34 (by decide) (by decide))
    · exact hIm.of (fun x hx => fa x (by unfold imagC at hx; simp; omega)) (by rw [fa 32 (by decide)]) (k46 36 (by decide) (by decide))
    · rw [kk1, b3 6 (by decide), k46 3 (by decide) (by decide)]; exact t0
    · rw [kk1, b2]
    · rw [kk2, c4 j, b4 j, m47]
      by_cases z : t ≤ j
      · rw [if_pos (by omega), if_pos (by omega)]
        exact ⟨_, bt_lt _ _, rfl, rfl⟩
      · rw [if_neg (by omega), if_neg (by omega)]
        exact t4 j (by omega)
    · rw [fa 0 (by decide), k46 35 (by decide) (by decide)]; exact hCt.1
    · rw [fa 0 (by decide), fa 48 (by decide)]; exact hCt.2.1
    · rw [fa 0 (by decide), fa 48 (by decide)]; exact hCt.2.2
    · obtain ⟨s1, s2⟩ := hSr
      have ef : ∀ s, findS K F n cd s = findS I F n cd s := fun s => by
        unfold findS frA
        rw [fa 6 (by decide), fa 7 (by decide), fa 8 (by decide), fa 3 (by decide), fa 4 (by decide), fa 5 (by decide), fa 29 (by decide)]
      refine ⟨by rw [fa 36 (by decide)]; exact s1, fun s hs hb => ?_⟩
      rw [fa 36 (by decide)] at hb
      rw [ef, fa 40 (by decide), fa 41 (by decide), fa 39 (by decide)]
      exact s2 s hs hb
  · refine bq_f (nI_ge (a := 600) (b := t + 20) (by omega) (by omega)) ?_
    refine ⟨gsc 1 hi hL (by decide), gsc 2 hi hL (by decide), gsc 3 hi hL (by decide), gsc 4 hi hL (by decide), gsc 5 hi hL (by decide), ?_⟩
    refine s_M_feed_0 ?_
    unfold t_M_feed_0
    have k1 : (m_up I 46 0 0) 46 1 = nI t := t3
    rw [k1, e20]
    refine bq_f (nI_ge (a := 600) (b := t + 20) (by omega) (by omega)) ?_
    exact bq_t rfl (hn _ _ (Inv.ro (ro_thrown I 0) ⟨F, S, n, cd, hA0⟩) (TI_s hT))
end FEED
