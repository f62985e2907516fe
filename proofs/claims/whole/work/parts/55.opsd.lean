/-! ===== askings: lost, side, thumb, oats ===== -/
section OPD
variable {E : MEnv} {B I : II} {T : TT} {Q : QQ} {F S n : Nat} {cd : Nat → Nat × Int32}
def lsr (r : Nat → Int32) (f : Nat) : Int32 := if r f = -1 then -1 else if 3 < r (8 + f) then -1 else 0
theorem spl_hi {j : Nat} (hj : 16 ≤ j) : ∀ (d g : Nat) (r : Nat → Int32), g + d ≤ 8 → rep spillC d g r j = r j
  | 0, _, _, _ => rfl
  | d + 1, g, r, hg => by
    rw [rep, spl_hi hj d (g + 1) _ (by omega)]
    unfold spillC
    split
    · rfl
    · split
      · rw [upd_ne (by omega), upd_ne (by omega)]
      · rw [upd_ne (by omega)]
theorem spl_dep {f : Nat} {r s : Nat → Int32} (h1 : s f = r f) (h2 : s (8 + f) = r (8 + f)) : spillC f s f = spillC f r f ∧ spillC f s (8 + f) = spillC f r (8 + f) := by
  unfold spillC
  rw [h1, h2]
  by_cases c : r f = -1
  · simp only [if_pos c]
    exact ⟨h1, h2⟩
  · simp only [if_neg c]
    by_cases c2 : p0 (r (8 + f) - 3) = 0
    · simp only [if_pos c2]
      refine ⟨?_, ?_⟩
      · rw [upd_at, upd_at]
      · rw [upd_ne (show 8 + f ≠ f by omega), upd_ne (show 8 + f ≠ f by omega), upd_at, upd_at]
    · simp only [if_neg c2]
      refine ⟨?_, ?_⟩
      · rw [upd_ne (by omega), upd_ne (by omega)]; exact h1
      · rw [upd_at, upd_at]
theorem spl_at {f : Nat} (hf : f < 8) : ∀ (d g : Nat) (r : Nat → Int32), g + d ≤ 8 → rep spillC d g r f = (if g ≤ f ∧ f < g + d then spillC f r f else r f) ∧ rep spillC d g r (8 + f) = (if g ≤ f ∧ f < g + d then spillC f r (8 + f) else r (8 + f))
  | 0, g, r, _ => by rw [if_neg (by omega), if_neg (by omega)]; exact ⟨rfl, rfl⟩
  | d + 1, g, r, hg => by
    rw [rep]
    obtain ⟨a1, a2⟩ := spl_at hf d (g + 1) (spillC g r) (by omega)
    rw [a1, a2]
    by_cases e : f = g
    · subst e
      rw [if_neg (by omega), if_pos (by omega), if_neg (by omega), if_pos (by omega)]
      exact ⟨rfl, rfl⟩
    · have k1 : spillC g r f = r f := by
        unfold spillC
        split
        · rfl
        · split
          · rw [upd_ne (by omega), upd_ne (by omega)]
          · rw [upd_ne (by omega)]
      have k2 : spillC g r (8 + f) = r (8 + f) := by
        unfold spillC
        split
        · rfl
        · split
          · rw [upd_ne (by omega), upd_ne (by omega)]
          · rw [upd_ne (by omega)]
      have k3 := spl_dep k1 k2
      rw [k1, k2, k3.1, k3.2]
      by_cases c : g + 1 ≤ f ∧ f < g + 1 + d
      · rw [if_pos c, if_pos c, if_pos (by omega), if_pos (by omega)]; exact ⟨rfl, rfl⟩
      · rw [if_neg c, if_neg c, if_neg (by omega), if_neg (by omega)]; exact ⟨rfl, rfl⟩
theorem p0_3 : ∀ t : Fin 10, (p0 (nI t.val - 3) = 0 ↔ ¬ (3 : Int32) < nI t.val) := by decide +kernel
theorem and_not (a b c : Nat) (ha : a < 256) (h : ∀ i, c.testBit i = (a.testBit i && !b.testBit i)) : nI a &&& (nI b ^^^ (-1)) = nI c := by
  apply Int32.toBitVec_inj.1
  show BitVec.ofNat 32 a &&& (BitVec.ofNat 32 b ^^^ (-1 : BitVec 32)) = BitVec.ofNat 32 c
  apply BitVec.eq_of_getLsbD_eq
  intro i hi
  have e : (-1 : BitVec 32) = BitVec.allOnes 32 := by decide
  rw [e]
  simp only [BitVec.getLsbD_and, BitVec.getLsbD_xor, BitVec.getLsbD_allOnes, BitVec.getLsbD_ofNat, hi, decide_true, Bool.true_and, Bool.xor_true, h]
theorem bits_alt (g : Nat → Int32) (F : Nat) : bits g F = rep (fun f b => if g f = -1 then b else b ||| ((1 : Int32) <<< (nI f &&& 31))) F 0 0 := rfl
theorem lost_eq {r q : Nat → Int32} {F S : Nat} (hF : F ≤ 8) (hv : rowV r F S) (hq : ∀ j, j < 29 → q j = r j) : bits r F &&& (bits (rep spillC F 0 q) F ^^^ (-1)) = bits (lsr r) F := by
  obtain ⟨a, a1, a2, a3⟩ := bits_tb r F 0 0 (by omega) (by decide)
  obtain ⟨b, b1, b2, b3⟩ := bits_tb (rep spillC F 0 q) F 0 0 (by omega) (by decide)
  obtain ⟨c, c1, c2, c3⟩ := bits_tb (lsr r) F 0 0 (by omega) (by decide)
  have ha : a < 256 := Nat.lt_of_lt_of_le a1 (show 2 ^ (0 + F) ≤ 2 ^ 8 from Nat.pow_le_pow_right (by omega) (by omega))
  have e1 : bits r F = nI a := a2
  have e2 : bits (rep spillC F 0 q) F = nI b := b2
  have e3 : bits (lsr r) F = nI c := c2
  rw [e1, e2, e3]
  refine and_not a b c ha (fun i => ?_)
  rw [a3, b3, c3, Nat.zero_testBit, Bool.false_or, Bool.false_or, Bool.false_or]
  by_cases hi : i < F
  · have s1 := (spl_at (f := i) (by omega) F 0 q (by omega)).1
    rw [if_pos (by omega)] at s1
    rw [s1]
    have hz : spillC i q i = if r i = -1 then -1 else if 3 < r (8 + i) then r i else -1 := by
      obtain ⟨t, ht, et⟩ := hv.2.2.1 i hi
      have := p0_3 ⟨t, by omega⟩
      simp only at this
      rw [← et] at this
      unfold spillC
      rw [hq i (by omega), hq (8 + i) (by omega)]
      by_cases k : r i = -1
      · rw [if_pos k, if_pos k, hq i (by omega)]; exact k
      · rw [if_neg k, if_neg k]
        by_cases k2 : 3 < r (8 + i)
        · rw [if_neg (fun z => this.mp z k2), if_pos k2, upd_ne (by omega)]; exact hq i (by omega)
        · rw [if_pos (this.mpr k2), if_neg k2, upd_at]
    rw [hz]
    unfold lsr
    by_cases k : r i = -1
    · simp [k]
    · by_cases k2 : 3 < r (8 + i)
      · simp [k, k2]
      · simp [k, k2, hi]
  · have : ∀ p : Prop, ¬ (0 ≤ i ∧ i < 0 + F ∧ p) := fun p z => hi (by omega)
    rw [decide_eq_false (this _), decide_eq_false (this _)]
    rfl
theorem xq_lost (hA : InvA B F S n cd) (hq : ∀ J, ro B J → Q (.inl (some (.int (bits (lsr (B 29)) F)))) J T) : ev E 294 0 [some (.ref 0)] [] B T Q := by
  refine s_X_lost_0 ?_
  unfold t_X_lost_0
  refine p_copyFrom ?_
  have h1 : ro B (m_row B 31 (va_cpy (B 29) (B 31) 0 0 29)) := ro_row B (by decide) _
  refine p_spill_30 (hA.1.1.ro h1) ?_
  have h2 := h1.trans (ro_row (m_row B 31 (va_cpy (B 29) (B 31) 0 0 29)) (c := 31) (by decide) (rep spillC F 0 ((m_row B 31 (va_cpy (B 29) (B 31) 0 0 29)) 31)))
  refine q_bits hA.1 h2 ?_
  refine p_teamBits_30 (hA.1.1.ro h2) ?_
  have z := hq _ h2
  rw [← lost_eq hA.1.F8 hA.1.rv (q := va_cpy (B 29) (B 31) 0 0 29) (fun j hj => cpy_in hj)] at z
  exact z
theorem l_mlost (hC : Core B F S n cd) (h : ro B I) : ∀ (d f : Nat) (b : Int32), f + d = F → Q (.inl (some (.int (rep (fun f b => if lsr (B 29) f = -1 then b else b ||| ((1 : Int32) <<< (nI f &&& 31))) d f b)))) I T → t_M_lost_7 E I T Q b (nI f)
  | 0, f, b, hf, hq => by
    have h8 := hC.F8
    unfold t_M_lost_7
    rw [(hC.2.1.ro h).1]
    exact bq_t (nI_le (by omega) (by omega)) hq
  | d + 1, f, b, hf, hq => by
    have h8 := hC.F8
    have e508 : I 508 = B 508 := h.cell (c := 508) (by decide)
    unfold t_M_lost_7 t_M_lost_34 t_M_lost_35
    rw [(hC.2.1.ro h).1]
    refine bq_f (nI_ge (by omega) (by omega)) ?_
    rw [rep] at hq
    unfold lsr at hq
    rw [nI_1, z0, z8, or_z]
    refine ⟨gix (by omega) (by omega), ?_⟩
    rw [nI_clamp (show f < 2 ^ 31 by omega), nI_clamp (show 8 + f < 2 ^ 31 by omega), e508, hC.q (by omega), hC.q (by omega)]
    refine ⟨fun c => ?_, fun c => ⟨⟨nI_pos (by omega), by omega⟩, fun c2 => ?_, fun c2 => ?_⟩⟩
    · rw [if_pos c, if_pos rfl] at hq
      exact s_M_lost_7 (l_mlost hC h d (f + 1) b (by omega) hq)
    · rw [if_neg c, if_pos c2, if_pos rfl] at hq
      exact s_M_lost_7 (l_mlost hC h d (f + 1) b (by omega) hq)
    · rw [if_neg c, if_neg c2, if_neg (by decide)] at hq
      exact s_M_lost_7 (l_mlost hC h d (f + 1) _ (by omega) hq)
theorem mq_lost (hA : InvA B F S n cd) (h : ro B I) (hq : ∀ J, ro B J → Q (.inl (some (.int (bits (lsr (B 29)) F)))) J T) : ev E 295 0 [some (.ref 46), none, none] [] I T Q :=
  s_M_lost_0 (l_mlost hA.1 (h.trans (ro_thrown I 0)) F 0 0 (by omega) (hq _ (h.trans (ro_thrown I 0))))
theorem o_lost : op_ok Inv E t_W_main_1153 := by
  intro I T Q i m hI hT hm hi hL hn
  have hG := TI_g hT hm
  obtain ⟨F, S, n, cd, hA⟩ := hI
  unfold t_W_main_1153
  refine xq_lost hA  (fun J hJ => ?_)
  exact mq_lost hA hJ  (fun K hK => bq_t rfl (hn K _ ⟨F, S, n, cd, hA.ro hK⟩ (TI_s hT)))
/-- FORCE of who is at a place, or none -/
def atF (r fo : Nat → Int32) (p : Int32) : Nat → Nat → Int32
  | 0, _ => 0
  | d + 1, f => if r f = p then fo f else atF r fo p d (f + 1)
def dist (r : Nat → Int32) (F : Nat) : Prop := ∀ f g, f < F → g < F → f ≠ g → r f ≠ -1 → r f ≠ r g
theorem atF_no {r fo : Nat → Int32} {p : Int32} : ∀ (d f : Nat), (∀ g, f ≤ g → g < f + d → r g ≠ p) → atF r fo p d f = 0
  | 0, _, _ => rfl
  | d + 1, f, h => by
    rw [atF, if_neg (h f (Nat.le_refl _) (by omega)), atF_no d (f + 1) (fun g h1 h2 => h g (by omega) (by omega))]
theorem p4 : ∀ p : Fin 4, ((nI p.val &&& 1) = 0 ↔ (p.val = 0 ∨ p.val = 2)) := by decide +kernel
theorem sides_at {r fo : Nat → Int32} : ∀ (d f : Nat) (a : Int32 × Int32), plc r (f + d) → dist r (f + d) → rep (sd r fo) d f a = (a.1 + (atF r fo 0 d f + atF r fo 2 d f), a.2 + (atF r fo 1 d f + atF r fo 3 d f))
  | 0, f, a, _, _ => by
    show a = (a.1 + (0 + 0), a.2 + (0 + 0))
    rw [Int32.add_zero, Int32.add_zero, Int32.add_zero]
  | d + 1, f, a, hp, hd => by
    rw [rep, sides_at d (f + 1) _ (by rw [show f + 1 + d = f + (d + 1) by omega]; exact hp) (by rw [show f + 1 + d = f + (d + 1) by omega]; exact hd)]
    rw [atF, atF, atF, atF]
    unfold sd
    rcases hp f (by omega) with c | ⟨p, hp4, e⟩
    · rw [if_pos c, c, if_neg (by decide), if_neg (by decide), if_neg (by decide), if_neg (by decide)]
    · have c : r f ≠ -1 := by rw [e]; exact nI_m1 (by omega)
      have hn : atF r fo (r f) d (f + 1) = 0 := atF_no d (f + 1) (fun g h1 h2 q => hd f g (by omega) (by omega) (by omega) c q.symm)
      rw [if_neg c]
      rw [e] at hn ⊢
      match p, hp4, hn with
      | 0, _, hn =>
        rw [if_pos (by decide), if_pos (by decide), if_neg (by decide), if_neg (by decide), if_neg (by decide)]
        change atF r fo 0 d (f + 1) = 0 at hn
        simp only [hn, Int32.zero_add, Int32.add_assoc]
      | 1, _, hn =>
        rw [if_neg (by decide), if_neg (by decide), if_neg (by decide), if_pos (by decide), if_neg (by decide)]
        change atF r fo 1 d (f + 1) = 0 at hn
        simp only [hn, Int32.zero_add, Int32.add_assoc]
      | 2, _, hn =>
        rw [if_pos (by decide), if_neg (by decide), if_pos (by decide), if_neg (by decide), if_neg (by decide)]
        change atF r fo 2 d (f + 1) = 0 at hn
        simp only [hn, Int32.add_zero, Int32.add_assoc, Int32.add_comm (fo f)]
      | 3, _, hn =>
        rw [if_neg (by decide), if_neg (by decide), if_neg (by decide), if_neg (by decide), if_pos (by decide)]
        change atF r fo 3 d (f + 1) = 0 at hn
        simp only [hn, Int32.add_zero, Int32.add_assoc, Int32.add_comm (fo f)]
theorem atF_who {r fo : Nat → Int32} {p : Int32} : ∀ (d f : Nat), f + d ≤ 8 → (whoAt r p d f = -1 → atF r fo p d f = 0) ∧ (whoAt r p d f ≠ -1 → ∃ g, g < f + d ∧ whoAt r p d f = nI g ∧ r g = p ∧ atF r fo p d f = fo g)
  | 0, _, _ => ⟨fun _ => rfl, fun h => absurd rfl h⟩
  | d + 1, f, hf => by
    rw [whoAt, atF]
    by_cases c : r f = p
    · rw [if_pos c, if_pos c]
      exact ⟨fun e => absurd e (nI_m1 (by omega)), fun _ => ⟨f, by omega, rfl, c, rfl⟩⟩
    · rw [if_neg c, if_neg c]
      obtain ⟨a1, a2⟩ := atF_who d (f + 1) (by omega)
      exact ⟨a1, fun h => by obtain ⟨g, g1, g2⟩ := a2 h; exact ⟨g, by omega, g2⟩⟩
/-- FORCE at a place, now -/
def atP (B : II) (F n : Nat) (cd : Nat → Nat × Int32) (p : Int32) : Int32 := atF (B 29) (foC B 29 n cd (ones (bits (B 29) F))) p F 0
theorem sides_B (hC : Core B F S n cd) : sidesC_28 B F n cd = (atP B F n cd 0 + atP B F n cd 2, atP B F n cd 1 + atP B F n cd 3) := by
  unfold sidesC_28 sides atP
  rw [sides_at F 0 (0, 0) (by rw [Nat.zero_add]; exact hC.rv.1) (by rw [Nat.zero_add]; exact hC.rv.2.1), Int32.zero_add, Int32.zero_add]
theorem l_mside1 (hC : Core B F S n cd) (h : ro B I) (h0 : I 46 0 = 0) {p : Nat} (hp : p < 4) (a : Int32) (hq : ∀ J, ro B J → J 46 0 = 0 → t_M_side_22 E J T Q (a + atP B F n cd (nI p)) (nI (p + 2))) : t_M_side_22 E I T Q a (nI p) := by
  have h8 := hC.F8
  unfold t_M_side_22 t_M_side_50
  refine bq_f (nI_ge (a := p) (b := 4) (by omega) (by omega)) ?_
  refine qm_who hC h _ ?_
  have e2 : nI p + 2 = nI (p + 2) := nI_add p 2
  rw [e2]
  obtain ⟨w1, w2⟩ := atF_who (r := B 29) (fo := foC B 29 n cd (ones (bits (B 29) F))) (p := nI p) F 0 (by omega)
  refine ⟨fun q => ?_, fun q => ?_⟩
  · have z := hq I h h0
    unfold atP at z
    rw [w1 q] at z
    exact s_M_side_22 z
  · obtain ⟨g, g1, g2, g3, g4⟩ := w2 q
    refine qm_who hC h _ ?_
    refine qm_bits hC h ?_
    refine p_ones _ ?_
    rw [g2]
    refine qm_force' hC h h0 (by omega) _ _ (fun J hJ j0 => ?_)
    have z := hq J hJ j0
    unfold atP at z
    have e : foC B 29 n cd (ones (bits (B 29) F)) g = frA B n cd g (nI p) (ones (bits (B 29) F)) := by
      unfold foC frA
      rw [g3]
    rw [g4, e] at z
    exact s_M_side_22 z
def sdV (B : II) (F n : Nat) (cd : Nat → Nat × Int32) (j : Nat) : Int32 := if j = 0 then (sidesC_28 B F n cd).1 else (sidesC_28 B F n cd).2
theorem xq_side (hA : InvA B F S n cd) (hT : TG T) {j : Nat} (hj : j ≤ 1) (hq : ∀ J, ro B J → Q (.inl (some (.int (sdV B F n cd j)))) J T) : ev E 300 0 [some (.ref 0), some (.int (nI j))] [] B T Q := by
  have hC := hA.1
  have h8 := hC.F8
  have h6 := hC.S6
  refine s_X_side_0 ?_
  unfold t_X_side_0 t_X_side_18
  refine q_within _ _ _ ?_
  rw [show wI (nI j) 0 1 = 1 from wI_n (b := 1) hj (by decide)]
  refine q_need hT _ (fun _ => ?_) (fun q => absurd q (by decide))
  refine q_weigh hC (ro.refl B) (fun J hJ he => ?_)
  have z := hq J hJ
  unfold sdV at z
  rw [← he] at z
  match j, hj with
  | 0, _ => exact bq_t rfl z
  | 1, _ => exact bq_f (by decide) z
theorem mq_side (hC : Core B F S n cd) (h : ro B I) {j : Nat} (hj : j ≤ 1) (hq : ∀ J, ro B J → J 46 0 = 0 → Q (.inl (some (.int (sdV B F n cd j)))) J T) : ev E 301 0 [some (.ref 46), some (.int (nI j)), none, none] [] I T Q := by
  have h8 := hC.F8
  have h6 := hC.S6
  have hI : ro B (m_up I 46 0 0) := h.trans (ro_thrown I 0)
  have h0 : (m_up I 46 0 0) 46 0 = 0 := rfl
  refine s_M_side_0 ?_
  unfold t_M_side_0 t_M_side_12
  refine q_in _ _ _ ?_
  rw [show wI (nI j) 0 1 = 1 from wI_n (b := 1) hj (by decide)]
  refine bq_f (by decide) ?_
  refine qm_bad0 rfl _ _ ?_
  refine bq_t rfl ?_
  unfold sdV at hq
  rw [sides_B hC] at hq
  match j, hj with
  | 0, _ =>
    refine l_mside1 hC hI h0 (p := 0) (by decide) 0 (fun J hJ j0 => ?_)
    refine l_mside1 hC hJ j0 (p := 2) (by decide) _ (fun K hK k0 => ?_)
    unfold t_M_side_22
    refine bq_t (by decide) ?_
    rw [Int32.zero_add]
    exact hq K hK k0
  | 1, _ =>
    refine l_mside1 hC hI h0 (p := 1) (by decide) 0 (fun J hJ j0 => ?_)
    refine l_mside1 hC hJ j0 (p := 3) (by decide) _ (fun K hK k0 => ?_)
    unfold t_M_side_22
    refine bq_t (by decide) ?_
    rw [Int32.zero_add]
    exact hq K hK k0
theorem xq_side_b0 (hA : InvA B F S n cd) (hT : TG T) {a1 : Int32} (c : ¬ okW a1 0 1) (hq : Q (.inr 1) (m_up B 0 15 (B 0 15 + 1)) (TX T)) : ev E 300 0 [some (.ref 0), some (.int (a1))] [] B T Q := by
  refine s_X_side_0 ?_
  unfold t_X_side_0 t_X_side_18
  refine q_within _ _ _ ?_
  rw [wI_f c]
  exact q_need hT _ (fun q => absurd rfl q) (fun _ => hq)
theorem mq_side_b0 (hm : mN I F S) {a1 : Int32} (c : ¬ okW a1 0 1) (hq : ∀ v J, ro (m_up I 48 1 (I 48 1 + 1)) J → J 46 0 = 1 → Q (.inl (some (.int v))) J T) : ev E 301 0 [some (.ref 46), some (.int (a1)), none, none] [] I T Q := by
  have hm2 : mN (m_up I 46 0 0) F S := hm
  refine s_M_side_0 ?_
  unfold t_M_side_0 t_M_side_12
  refine q_in _ _ _ ?_
  rw [wI_f c]
  refine bq_t rfl ?_
  refine qm_bad1 (j := 1) rfl (by decide) (by decide) ?_
  refine bq_f (by decide) ?_
  exact hq _ _ (ro_bad I _ _) rfl

theorem o_side : op_ok Inv E t_W_main_1205 := by
  intro I T Q i m hI hT hm hi hL hn
  have hG := TI_g hT hm
  obtain ⟨F, S, n, cd, hA⟩ := hI
  unfold t_W_main_1205
  generalize E.2.2 (nI i + 1).toNatClampNeg = a1
  refine ⟨gsc 1 hi hL (by decide), ?_⟩
  refine s_W_side_0 ?_
  unfold t_W_side_0 t_W_side_9
  by_cases c0 : okW a1 0 1
  · obtain ⟨j, hj, rfl⟩ := okW_nat (k := 1) (by decide) c0
    refine xq_side hA hG hj (fun J hJ => ?_)
    exact ⟨gsc 1 hi hL (by decide), mq_side hA.1 hJ hj (fun K hK h0 => fin_ok h0 (fun _ => rfl) (hn K _ ⟨F, S, n, cd, hA.ro hK⟩ (TI_s hT)))⟩
  · refine xq_side_b0 hA hG  c0 ?_
    refine ⟨rfl, ?_⟩
    exact ⟨gsc 1 hi hL (by decide), mq_side_b0 (F := F) (S := S) (show mN (m_up I 0 15 (I 0 15 + 1)) F S from hA.1.2.1)  c0 (fun v J hJ h0 => fin_ok h0 (fun q => absurd q (by decide)) (hn J _ (Inv_thr (x := 1) (by decide) ⟨F, S, n, cd, hA⟩ rfl (ro.refl _) hJ) (TI_x hT)))⟩
end OPD
