/-! ===== askings that keep what they found: the best team, by the class ===== -/
abbrev SC2 : List Nat := [0, 18, 19, 28, 30, 31, 36, 37, 38, 39, 40, 41, 43, 44, 45, 46, 425, 426, 509, 531, 532, 533, 534]
def rs (B I : II) : Prop := FR SC2 B I ∧ (∀ j, j ≠ 12 → I 0 j = B 0 j) ∧ ∀ j, j ≠ 0 → j ≠ 42 → j ≠ 43 → j ≠ 47 → I 46 j = B 46 j
theorem rs.refl (B : II) : rs B B := ⟨FR.refl _ _, fun _ _ => rfl, fun _ _ _ _ _ => rfl⟩
theorem rs.trans {B I J : II} (h : rs B I) (k : rs I J) : rs B J := ⟨h.1.trans k.1, fun j hj => (k.2.1 j hj).trans (h.2.1 j hj), fun j a b c d => (k.2.2 j a b c d).trans (h.2.2 j a b c d)⟩
theorem rs.cell {B I : II} (h : rs B I) {c : Nat} (hc : c ∉ SC2) : I c = B c := h.1 c hc
theorem sc2_rng {c a b : Nat} (h1 : a ≤ c) (h2 : c < b) (h : (List.range' a (b - a)).all (fun c => decide (c ∉ SC2)) = true) : c ∉ SC2 := of_decide_eq_true (List.all_eq_true.mp h c (List.mem_range'_1.mpr ⟨h1, by omega⟩))
theorem lawR.rs {B I : II} {n : Nat} {cd : Nat → Nat × Int32} (h : rs B I) (hr : lawR B n cd) : lawR I n cd := by
  obtain ⟨⟨dep, hw⟩, hc, hm⟩ := hr
  refine ⟨⟨dep, hw⟩, ⟨by rw [h.cell (by decide)]; exact hc.1, fun k hk => by rw [h.cell (c := 16) (by decide)]; exact hc.2 k hk⟩, ?_⟩
  rcases hm with ⟨h1, hm⟩ | ⟨h1, h2, h3⟩
  · have := hw.2.2.1
    refine Or.inl ⟨h1, by rw [h.2.2 19 (by decide) (by decide) (by decide) (by decide)]; exact hm.1, fun k hk => ?_⟩
    rw [h.cell (c := 86 + k) (sc2_rng (a := 86) (b := 236) (by omega) (by omega) (by decide))]
    exact hm.2 k hk
  · exact Or.inr ⟨by rw [h.2.2 19 (by decide) (by decide) (by decide) (by decide)]; exact h1, h2, h3⟩
theorem hN.rs {B I : II} {F S : Nat} (h : rs B I) (hr : hN B F S) : hN I F S := by
  unfold hN at hr ⊢
  rw [h.cell (c := 3) (by decide)]
  exact hr
theorem mN.rs {B I : II} {F S : Nat} (h : rs B I) (hr : mN B F S) : mN I F S := by
  unfold mN at hr ⊢
  rw [h.cell (c := 50) (by decide)]
  exact hr
theorem findS_rs {B I : II} (h : rs B I) (F n : Nat) (cd : Nat → Nat × Int32) (s : Nat) : findS I F n cd s = findS B F n cd s := by
  unfold findS frA
  rw [h.cell (c := 6) (by decide), h.cell (c := 7) (by decide), h.cell (c := 8) (by decide), h.cell (c := 3) (by decide), h.cell (c := 4) (by decide), h.cell (c := 5) (by decide), h.cell (c := 29) (by decide)]
theorem Core.rs {B I : II} {F S n : Nat} {cd : Nat → Nat × Int32} (h : rs B I) (hr : Core B F S n cd) : Core I F S n cd := by
  obtain ⟨h1, h2, h3, h4, h5, h6, h7, h8⟩ := hr
  have b1 := h1.2.1
  have b2 := h1.2.2.2
  refine ⟨h1.rs h, h2.rs h, h3.rs h, fun f hf => ?_, fun s hs => ?_, ?_, ?_, ?_⟩
  · rw [h.cell (c := 61 + f) (sc2_rng (a := 61) (b := 69) (by omega) (by omega) (by decide)), h.cell (c := 4) (by decide), h.cell (c := 5) (by decide), h.cell (c := 6) (by decide), h.cell (c := 84) (by decide)]
    exact h4 f hf
  · rw [h.cell (c := 77 + s) (sc2_rng (a := 77) (b := 83) (by omega) (by omega) (by decide)), h.cell (c := 7) (by decide), h.cell (c := 8) (by decide)]
    exact h5 s hs
  · rw [h.cell (c := 50) (by decide), h.cell (c := 3) (by decide)]; exact h6
  · rw [h.cell (c := 29) (by decide), h.cell (c := 508) (by decide)]; exact h7
  · rw [h.cell (c := 29) (by decide)]; exact h8
theorem Bk.rs {B I : II} {F : Nat} (h : rs B I) (hr : Bk B F) : Bk I F := by
  obtain ⟨k, h1, h2, h3, h4, h5⟩ := hr
  refine ⟨k, h1, by rw [h.cell (c := 20) (by decide)]; exact h2, by rw [h.2.2 33 (by decide) (by decide) (by decide) (by decide)]; exact h3, fun j hj => ?_, fun f hf => ?_⟩
  · rw [h.cell (c := 408 + j) (sc2_rng (a := 408) (b := 416) (by omega) (by omega) (by decide)), h.cell (c := 21) (by decide)]
    exact h4 j hj
  · rw [h.cell (c := 21) (by decide)]
    rcases h5 f hf with q | ⟨j, q1, q2⟩
    · exact Or.inl q
    · refine Or.inr ⟨j, q1, ?_⟩
      rw [h.cell (c := 408 + j) (sc2_rng (a := 408) (b := 416) (by omega) (by omega) (by decide))]
      exact q2
theorem Sh.rs {B I : II} {F S : Nat} (h : rs B I) (hr : Sh B F S) : Sh I F S := by
  obtain ⟨w, h1, h2, h3, h4⟩ := hr
  refine ⟨w, h1, by rw [h.cell (c := 32) (by decide)]; exact h2, by rw [h.2.2 34 (by decide) (by decide) (by decide) (by decide)]; exact h3, fun k hk => ?_⟩
  rw [h.cell (c := 33) (by decide), h.cell (c := 511 + k) (sc2_rng (a := 511) (b := 527) (by omega) (by omega) (by decide))]
  exact h4 k hk
theorem Im.rs {B I : II} {F S : Nat} (h : rs B I) (hr : Im B F S) : Im I F S := by
  obtain ⟨m, h1, h2, h3, h4⟩ := hr
  refine ⟨m, h1, by rw [h.cell (c := 32) (by decide)]; exact h2, by rw [h.2.2 36 (by decide) (by decide) (by decide) (by decide)]; exact h3, fun i hi => ?_⟩
  rw [h.cell (c := 34) (by decide), h.cell (c := 35) (by decide), h.cell (c := 528 + i) (sc2_rng (a := 528) (b := 531) (by omega) (by omega) (by decide))]
  exact h4 i hi
theorem Tx.rs {B I : II} (h : rs B I) (hr : Tx B) : Tx I := by
  obtain ⟨h0, t, h1, h2, h3, h4⟩ := hr
  refine ⟨by rw [h.cell (c := 1) (by decide), h.2.2 3 (by decide) (by decide) (by decide) (by decide)]; exact h0, t, h1, by rw [h.cell (c := 1) (by decide)]; exact h2, by rw [h.2.2 1 (by decide) (by decide) (by decide) (by decide)]; exact h3, fun j hj => ?_⟩
  rw [h.cell (c := 47) (by decide), h.cell (c := 2) (by decide)]
  exact h4 j hj
theorem Ct.rs {B I : II} (h : rs B I) (hr : Ct B) : Ct I := by
  obtain ⟨h1, h2, h3⟩ := hr
  refine ⟨?_, ?_, ?_⟩
  · rw [h.2.1 13 (by decide), h.2.2 35 (by decide) (by decide) (by decide) (by decide)]; exact h1
  · rw [h.2.1 14 (by decide), h.cell (c := 48) (by decide)]; exact h2
  · rw [h.2.1 15 (by decide), h.cell (c := 48) (by decide)]; exact h3
theorem InvA.rs {B I : II} {F S n : Nat} {cd : Nat → Nat × Int32} (h : rs B I) (hr : InvA B F S n cd) (hs : Sr I F S n cd) : InvA I F S n cd := ⟨hr.1.rs h, hr.2.1.rs h, hr.2.2.1.rs h, hr.2.2.2.1.rs h, hr.2.2.2.2.1.rs h, hr.2.2.2.2.2.1.rs h, hs⟩
theorem FR.rs {L : List Nat} {I J : II} (h : FR L I J) (hL : ∀ c, c ∈ L → c ∈ [18, 19, 36, 37, 38, 39, 40, 41]) : rs I J := by
  have h0 : (0 : Nat) ∉ L := fun q => absurd (hL 0 q) (by decide)
  have h46 : (46 : Nat) ∉ L := fun q => absurd (hL 46 q) (by decide)
  refine ⟨h.mono (fun c hc => ?_), fun j _ => by rw [h 0 h0], fun j _ _ _ _ => by rw [h 46 h46]⟩
  have : ∀ c, c ∈ [18, 19, 36, 37, 38, 39, 40, 41] → c ∈ SC2 := by decide
  exact this c (hL c hc)
theorem idx_c : ∀ (f : Fin 8) (p z : Fin 4), ((((((nI (z.val + 1) - 1) &&& 3) * 4) + (nI p.val &&& 3)) * 8) + (nI f.val &&& 7)) = nI (32 * z.val + 8 * p.val + f.val) := by decide +kernel
theorem pop_or : ∀ (m : Fin 256) (f : Fin 8), m.val.testBit f.val = false → ones (nI (m.val ||| 2 ^ f.val)) = ones (nI m.val) + 1 := by decide +kernel
def tkc (tk : Nat → Int32) (p : Nat) : Nat := fb_ct (fun j => decide (tk j ≠ -1)) p
theorem tkc_no {tk : Nat → Int32} {p : Nat} : tkc (upd tk p (-1)) (p + 1) = tkc tk p := by
  unfold tkc
  rw [fb_ct_succ, if_neg (by rw [upd_at]; decide), Nat.add_zero]
  exact fb_ct_cong (fun k hk => by rw [upd_ne (by omega)])
theorem tkc_in {tk : Nat → Int32} {p f : Nat} (hf : f < 8) : tkc (upd tk p (nI f)) (p + 1) = tkc tk p + 1 := by
  unfold tkc
  rw [fb_ct_succ, if_pos (by rw [upd_at]; exact decide_eq_true (nI_m1 (by omega)))]
  congr 1
  exact fb_ct_cong (fun k hk => by rw [upd_ne (by omega)])
/-- who is taken so far, and whom they bar -/
def fI (F : Nat) (tk : Nat → Int32) (p m m2 : Nat) : Prop := m < 256 ∧ m2 < 256 ∧ ones (nI m) = nI (tkc tk p) ∧ ∀ j, j < p → tk j = -1 ∨ ∃ f, f < F ∧ tk j = nI f
theorem fI_no {F : Nat} {tk : Nat → Int32} {p m m2 : Nat} (h : fI F tk p m m2) : fI F (upd tk p (-1)) (p + 1) m m2 := by
  obtain ⟨a, b, c, d⟩ := h
  refine ⟨a, b, by rw [tkc_no]; exact c, fun j hj => ?_⟩
  by_cases e : j = p
  · subst e; exact Or.inl (upd_at _ _ _)
  · rw [upd_ne e]; exact d j (by omega)
theorem bit_free {m m2 f : Nat} (hm : m < 256) (hm2 : m2 < 256) (hf : f < 8) (h : (((nI m ||| nI m2) >>> (nI f &&& 31)) &&& 1) = 0) : m.testBit f = false := by
  rw [fa_or, shr_and (m ||| m2) (Nat.or_lt_two_pow (n := 8) hm hm2) f hf] at h
  have h1 : (m ||| m2) / 2 ^ f % 2 = 0 := (nI_eq (a := (m ||| m2) / 2 ^ f % 2) (b := 0) (by omega) (by omega)).mp h
  have h2 : (m ||| m2).testBit f = false := by
    rw [Nat.testBit_eq_decide_div_mod_eq, h1]; rfl
  rw [Nat.testBit_or] at h2
  cases hb : m.testBit f with
  | false => rfl
  | true => rw [hb] at h2; exact absurd h2 (by simp)
theorem fI_in {F : Nat} {tk : Nat → Int32} {p m m2 f k : Nat} (hF : F ≤ 8) (h : fI F tk p m m2) (hf : f < F) (hk : k < 256) (hb : (((nI m ||| nI m2) >>> (nI f &&& 31)) &&& 1) = 0) : fI F (upd tk p (nI f)) (p + 1) (m ||| 2 ^ f) (m2 ||| k) := by
  obtain ⟨a, b, c, d⟩ := h
  have hbit := bit_free a b (by omega : f < 8) hb
  have hpf : 2 ^ f < 2 ^ 8 := Nat.pow_lt_pow_right (by omega) (by omega)
  refine ⟨Nat.or_lt_two_pow (n := 8) a hpf, Nat.or_lt_two_pow (n := 8) b hk, ?_, fun j hj => ?_⟩
  · rw [pop_or ⟨m, a⟩ ⟨f, by omega⟩ hbit, tkc_in (by omega)]
    show ones (nI m) + 1 = _
    rw [c, nI_1]
  · by_cases e : j = p
    · subst e; exact Or.inr ⟨f, hf, upd_at _ _ _⟩
    · rw [upd_ne e]; exact d j (by omega)
theorem swS_congr {fr : Nat → Int32 → Int32 → Int32} {t u : Nat → Int32} (z : Int32) (h : ∀ j, j < 4 → t j = u j) : sw4 fr t z = sw4 fr u z := by
  unfold sw4
  exact rep_congr 4 0 _ (fun g _ hg b => by unfold swS; rw [h g (by omega)])
theorem sw4_none {fr : Nat → Int32 → Int32 → Int32} {t : Nat → Int32} (z : Int32) (h : ∀ j, j < 4 → t j = -1) : sw4 fr t z = (0, 0) := by
  unfold sw4
  refine rep_inv (P := fun a => a = (0, 0)) 4 0 _ (fun g b _ hg hb => ?_) rfl
  show swS fr t z g b = _
  unfold swS
  rw [if_pos (h g (by omega))]; exact hb
theorem outc_2 (len turn bears st tilt : Int32) : outc len turn bears st tilt = 2 ↔ len / 3 + 1 ≤ st ∧ tilt + turn ≤ bears := by
  unfold outc
  by_cases c : len / 3 + 1 ≤ st
  · rw [if_pos c]
    by_cases c2 : tilt + turn ≤ bears
    · rw [if_pos c2]; exact ⟨fun _ => ⟨c, c2⟩, fun _ => rfl⟩
    · rw [if_neg c2]; exact ⟨fun q => absurd q (by decide), fun q => absurd q.2 c2⟩
  · rw [if_neg c]; exact ⟨fun q => absurd q (by decide), fun q => absurd q.1 c⟩
theorem bet_iff (len turn bears : Int32) (a : Int32 × Int32) (s : SG) : bet len turn bears a s = true ↔ (len / 3 + 1 ≤ a.1 ∧ ab a.2 + turn ≤ bears) ∧ ¬ a.1 < s.1 ∧ (a.1 = s.1 → ab a.2 < s.2.1) := by
  unfold bet
  rw [Bool.and_eq_true, Bool.and_eq_true, Bool.or_eq_true, decide_eq_true_iff, decide_eq_true_iff, decide_eq_true_iff, decide_eq_true_iff, outc_2]
  constructor
  · rintro ⟨a, b, c⟩
    exact ⟨a, b, fun e => c.resolve_left (fun z => z e)⟩
  · rintro ⟨x, y, c⟩
    refine ⟨x, y, ?_⟩
    by_cases e : a.1 = s.1
    · exact Or.inr (c e)
    · exact Or.inl e
section SRC
variable {E : MEnv} {B G I : II} {T : TT} {Q : QQ} {F S n : Nat} {cd : Nat → Nat × Int32} {r q : Nat → Int32}
/-- FORCES found so far -/
def fdn (B : II) (F n : Nat) (cd : Nat → Nat × Int32) (I : II) (p f z : Nat) : Prop := ∀ p' f' z', p' < 4 → f' < F → z' < 4 → (p' < p ∨ (p' = p ∧ (f' < f ∨ (f' = f ∧ z' < z)))) → I 37 (32 * z' + 8 * p' + f') = frA B n cd f' (nI p') (nI (z' + 1))
theorem l_fd3 (hC : Core B F S n cd) {s p f : Nat} (hp : p < 4) (hf : f < 8) : ∀ (d z : Nat) (I : II), rs B I → z + d = 4 → fdn B F n cd I p f z → (∀ J, FR [18, 19, 37] I J → fdn B F n cd J p (f + 1) 0 → t_Search_find_28_48 E J T Q (nI s) (nI p) (nI (f + 1))) → t_Search_find_28_53 E I T Q (nI s) (nI p) (nI f) (nI (z + 1))
  | 0, z, I, h, hz, hd, hq => by
    unfold t_Search_find_28_53
    rw [nI_1 f]
    refine bq_t (nI_lt (a := 4) (b := z + 1) (by omega) (by omega)) (s_Search_find_28_48 (hq I (FR.refl _ _) (fun p' f' z' a b c e => ?_)))
    refine hd p' f' z' a b c ?_
    omega
  | d + 1, z, I, h, hz, hd, hq => by
    have h8 := hC.F8
    unfold t_Search_find_28_53
    refine bq_f (nI_nlt (a := 4) (b := z + 1) (by omega) (by omega)) ?_
    refine s_Search_forceIndex_0 ?_
    unfold t_Search_forceIndex_0
    rw [idx_c ⟨f, hf⟩ ⟨p, hp⟩ ⟨z, by omega⟩]
    refine p_forceOf_28 (hC.1.rs h) (hC.lr.rs h) (by omega) _ _ (fun J hJ => ?_)
    refine ⟨gix (f := 32 * z + 8 * p + f) (by omega) (by omega), ?_⟩
    rw [nI_clamp (by omega), nI_1 (z + 1)]
    have hJ2 : FR [18, 19, 37] I J := hJ.mono (by decide)
    refine s_Search_find_28_53 (l_fd3 hC hp hf d (z + 1) _ (h.trans ((hJ2.trans (FR.up (c := 37) (by decide) _ _)).rs (by decide))) (by omega) (fun p' f' z' a b c e => ?_) (fun K hK hk => hq K ((hJ2.trans (FR.up (by decide) _ _)).trans hK) hk))
    rw [m_up_at]
    by_cases e2 : 32 * z' + 8 * p' + f' = 32 * z + 8 * p + f
    · rw [if_pos e2]
      have e3 : z' = z ∧ p' = p ∧ f' = f := by omega
      obtain ⟨rfl, rfl, rfl⟩ := e3
      rw [if_pos b, if_pos b, if_pos b, if_pos b, h.cell (c := 4) (by decide), h.cell (c := 5) (by decide), h.cell (c := 29) (by decide)]
      rfl
    · rw [if_neg e2, hJ 37 (by decide)]
      exact hd p' f' z' a b c (by omega)
theorem l_fd2 (hC : Core B F S n cd) {s p : Nat} (hp : p < 4) : ∀ (d f : Nat) (I : II), rs B I → f + d = 8 → fdn B F n cd I p f 0 → (∀ J, FR [18, 19, 37] I J → fdn B F n cd J (p + 1) 0 0 → t_Search_find_28_34 E J T Q (nI s) (nI (p + 1))) → t_Search_find_28_48 E I T Q (nI s) (nI p) (nI f)
  | 0, f, I, h, hf, hd, hq => by
    have h8 := hC.F8
    unfold t_Search_find_28_48
    rw [nI_1 p]
    refine bq_t (nI_le (a := 8) (b := f) (by omega) (by omega)) (s_Search_find_28_34 (hq I (FR.refl _ _) (fun p' f' z' a b c e => ?_)))
    exact hd p' f' z' a b c (by omega)
  | d + 1, f, I, h, hf, hd, hq => by
    unfold t_Search_find_28_48
    refine bq_f (nI_ge (a := f) (b := 8) (by omega) (by omega)) ?_
    refine l_fd3 hC hp (by omega) 4 0 I h (by omega) hd (fun J hJ hj => ?_)
    exact l_fd2 hC hp d (f + 1) J (h.trans (hJ.rs (by decide))) (by omega) hj (fun K hK hk => hq K (hJ.trans hK) hk)
theorem l_fd1 (hC : Core B F S n cd) {s : Nat} (hs : s < 6) : ∀ (d p : Nat) (I : II), rs B I → p + d = 4 → fdn B F n cd I p 0 0 → (∀ k, k < p → I 39 (4 * s + k) = -1) → (∀ J, FR [18, 19, 37, 39] I J → fdn B F n cd J 4 0 0 → (∀ k, k < 4 → J 39 (4 * s + k) = -1) → (∀ i, (i < 4 * s ∨ 4 * s + 4 ≤ i) → J 39 i = I 39 i) → ev E 221 0 [some (.ref 36), some (.ref 3), some (.int (nI s)), some (.int 0), some (.int 0), some (.int 0), none] [] J T (KV (fun I1 T1 => Q (.inl none) I1 T1) (fun x I1 T1 => Q (.inr x) I1 T1))) → t_Search_find_28_34 E I T Q (nI s) (nI p)
  | 0, p, I, h, hp, hd, hk, hq => by
    unfold t_Search_find_28_34
    have e : p = 4 := by omega
    subst e
    exact bq_t (by decide) (hq I (FR.refl _ _) hd hk (fun _ _ => rfl))
  | d + 1, p, I, h, hp, hd, hk, hq => by
    unfold t_Search_find_28_34
    refine bq_f (nI_ge (a := p) (b := 4) (by omega) (by omega)) ?_
    have e : (nI s * 4 + nI p : Int32) = nI (4 * s + p) := by
      have : (nI s * 4 : Int32) = nI (s * 4) := pk_mul s 4
      rw [this, nI_add, Nat.mul_comm]
    rw [e]
    refine ⟨gix (by omega) (by omega), ?_⟩
    rw [nI_clamp (by omega)]
    have f1 : FR [18, 19, 37, 39] I (m_up I 39 (4 * s + p) (-1)) := FR.up (by decide) _ _
    refine l_fd2 hC (by omega) 8 0 _ (h.trans (f1.rs (by decide))) (by omega) (fun p' f' z' a b c e => hd p' f' z' a b c (by omega)) (fun J hJ hj => ?_)
    have f2 : FR [18, 19, 37, 39] I J := f1.trans (hJ.mono (by decide))
    have e39 : J 39 = (m_up I 39 (4 * s + p) (-1)) 39 := hJ 39 (by decide)
    refine l_fd1 hC hs d (p + 1) J (h.trans (f2.rs (by decide))) (by omega) hj (fun k hk2 => ?_) (fun K hK k1 k2 k3 => hq K (f2.trans hK) k1 k2 (fun i hi => ?_))
    · rw [e39, m_up_at]
      by_cases e2 : 4 * s + k = 4 * s + p
      · rw [if_pos e2]
      · rw [if_neg e2]; exact hk k (by omega)
    · rw [k3 i hi, e39, m_up_at, if_neg (by omega)]
/-- what the search holds -/
def sH (s : Nat) (G I : II) (σ : SG) : Prop := FR [38, 39, 40, 41] G I ∧ I 40 s = σ.1 ∧ I 41 s = σ.2.1 ∧ (∀ p, p < 4 → I 39 (4 * s + p) = σ.2.2 p) ∧ (∀ i, i ≠ s → I 40 i = G 40 i ∧ I 41 i = G 41 i) ∧ ∀ i, (i < 4 * s ∨ 4 * s + 4 ≤ i) → I 39 i = G 39 i
theorem sH_38 {s : Nat} {σ : SG} (h : sH s G I σ) (j : Nat) (v : Int32) : sH s G (m_up I 38 j v) σ := ⟨h.1.trans (FR.up (by decide) _ _), h.2.1, h.2.2.1, h.2.2.2.1, h.2.2.2.2.1, h.2.2.2.2.2⟩
def cmA (B : II) (n : Nat) (cd : Nat → Nat × Int32) (s : Nat) (team : Int32) (tk : Nat → Int32) (σ : SG) : SG := cmpS (B 7 s) (B 8 s) (B 3 7) (frA B n cd) (ones team) tk σ
theorem l_cmp (hC : Core B F S n cd) (hG : rs B G) (hd : fdn B F n cd G 4 0 0) {s c : Nat} (hs : s < S) (hc1 : 1 ≤ c) (hc4 : c ≤ 4) {σ : SG} (h : sH s G I σ) {tk : Nat → Int32} (htk : ∀ j, j < 4 → I 38 j = tk j) (hf : ∀ j, j < 4 → tk j = -1 ∨ ∃ f, f < F ∧ tk j = nI f) (hq : ∀ J, sH s G J (if bet (B 7 s) (B 8 s) (B 3 7) (sw4 (frA B n cd) tk (nI c)) σ = true then ((sw4 (frA B n cd) tk (nI c)).1, ab (sw4 (frA B n cd) tk (nI c)).2, tk) else σ) → J 38 = I 38 → Q (.inl none) J T) : ∀ (d p : Nat) (a : Int32 × Int32), p + d = 4 → rep (swS (frA B n cd) tk (nI c)) d p a = sw4 (frA B n cd) tk (nI c) → t_Search_compare_3_14 E I T Q (nI s) (nI c) a.1 a.2 (nI p)
  | 0, p, a, hp, ha => by
    have h6 := hC.S6
    have hI : rs B I := hG.trans (h.1.rs (by decide))
    have ha2 : a = sw4 (frA B n cd) tk (nI c) := ha
    rw [← ha2] at hq
    unfold t_Search_compare_3_14 t_Search_compare_3_73 t_Search_compare_3_72 t_Search_compare_3_106
    refine bq_t (nI_le (a := 4) (b := p) (by omega) (by omega)) ?_
    rw [nI_clamp (show s < 2 ^ 31 by omega)]
    have gs : ¬ nI s < 0 ∧ s < 6 := ⟨nI_pos (by omega), by omega⟩
    have eab : (if 0 ≤ a.2 then a.2 else 0 - a.2) = ab a.2 := rfl
    rw [eab, h.2.1, h.2.2.1]
    have no : ¬ bet (B 7 s) (B 8 s) (B 3 7) a σ = true → Q (.inl none) I T := fun z => by
      rw [if_neg z] at hq; exact hq I h rfl
    have yes : ¬ a.1 < σ.1 → (a.1 = σ.1 → ab a.2 < σ.2.1) → ev E 134 0 [some (.ref 3), some (.int (nI s))] [] I T (KI (fun v1 I1 T1 => (a.1 < v1 → (Q (.inl none) I1 T1)) ∧ (¬ (a.1 < v1) → (ev E 137 0 [some (.ref 3), some (.int (nI s))] [] I1 T1 (KI (fun v2 I2 T2 => ((I2 3 7) < (ab a.2 + v2) → (Q (.inl none) I2 T2)) ∧ (¬ ((I2 3 7) < (ab a.2 + v2)) → ((¬ nI s < 0 ∧ s < 6) ∧ ((¬ nI s < 0 ∧ s < 6) ∧ ((¬ (0 : Int32) < 0 ∧ ¬ (nI s * 4) < 0 ∧ ¬ (4 : Int32) < 0 ∧ (0 : Int32).toNatClampNeg + (4 : Int32).toNatClampNeg ≤ 4 ∧ (nI s * 4).toNatClampNeg + (4 : Int32).toNatClampNeg ≤ 24) ∧ (Q (.inl none) (m_row (m_up (m_up I2 40 s a.1) 41 s (ab a.2)) 39 (va_cpy ((m_up (m_up I2 40 s a.1) 41 s (ab a.2)) 38) ((m_up (m_up I2 40 s a.1) 41 s (ab a.2)) 39) 0 (nI s * 4).toNatClampNeg 4)) T2)))))) (fun x I1 T1 => Q (.inr x) I1 T1))))) (fun x I1 T1 => Q (.inr x) I1 T1)) := by
      intro n1 n2
      refine p_leastStrength (hC.1.rs hI) (by omega) ?_
      rw [if_pos hs, hI.cell (c := 7) (by decide)]
      refine ⟨fun c1 => no (fun z => ?_), fun c1 => ?_⟩
      · have := ((bet_iff _ _ _ _ _).mp z).1.1
        exact (fa_of_lt c1).2.1 this
      · refine p_turnOf (hC.1.rs hI) (by omega) ?_
        rw [if_pos hs, hI.cell (c := 8) (by decide)]
        show (I 3 7 < _ → _) ∧ (¬ I 3 7 < _ → _)
        rw [hI.cell (c := 3) (by decide)]
        refine ⟨fun c2 => no (fun z => ?_), fun c2 => ?_⟩
        · have := ((bet_iff _ _ _ _ _).mp z).1.2
          exact (fa_of_lt c2).2.1 this
        · rw [if_pos ((bet_iff _ _ _ _ _).mpr ⟨⟨fa_of_nlt c1, fa_of_nlt c2⟩, n1, n2⟩)] at hq
          have e4 : (nI s * 4 : Int32) = nI (s * 4) := pk_mul s 4
          rw [e4, nI_clamp (by omega)]
          refine ⟨gs, gs, ⟨by decide, nI_pos (by omega), by decide, by decide, by show s * 4 + 4 ≤ 24; omega⟩, ?_⟩
          refine hq _ ⟨h.1.trans (((FR.up (by decide) _ _).trans (FR.up (by decide) _ _)).trans (FR.row (by decide) _)), ?_, ?_, fun p hp => ?_, fun i hi => ⟨?_, ?_⟩, fun i hi => ?_⟩ rfl
          · show (if s = s then a.1 else I 40 s) = _
            rw [if_pos rfl]
          · show (if s = s then ab a.2 else I 41 s) = _
            rw [if_pos rfl]
          · show va_cpy (I 38) (I 39) 0 (s * 4) 4 (4 * s + p) = tk p
            rw [pk_cpy_in (by omega) (by omega), show 0 + (4 * s + p - s * 4) = p by omega]
            exact htk p hp
          · show (if i = s then a.1 else I 40 i) = _
            rw [if_neg hi]; exact (h.2.2.2.2.1 i hi).1
          · show (if i = s then ab a.2 else I 41 i) = _
            rw [if_neg hi]; exact (h.2.2.2.2.1 i hi).2
          · show va_cpy (I 38) (I 39) 0 (s * 4) 4 i = _
            rw [pk_cpy_out (by omega)]
            exact h.2.2.2.2.2 i hi
    refine ⟨gs, fun c1 => no (fun z => ?_), fun c1 => ⟨gs, fun c2 => ⟨gs, fun c3 => yes c1 (fun _ => c3), fun c3 => no (fun z => ?_)⟩, fun c2 => yes c1 (fun e => absurd e c2)⟩⟩
    · exact ((bet_iff _ _ _ _ _).mp z).2.1 c1
    · exact c3 (((bet_iff _ _ _ _ _).mp z).2.2 c2)
  | d + 1, p, a, hp, ha => by
    have h8 := hC.F8
    unfold t_Search_compare_3_14 t_Search_compare_3_47 t_Search_compare_3_49
    refine bq_f (nI_ge (a := p) (b := 4) (by omega) (by omega)) ⟨gix (by omega) (by omega), ?_⟩
    rw [nI_clamp (by omega), htk p (by omega), nI_1 p]
    rw [rep] at ha
    refine ⟨fun c1 => ?_, fun c1 => ⟨⟨nI_pos (by omega), by omega⟩, ?_⟩⟩
    · have e : swS (frA B n cd) tk (nI c) p a = a := if_pos c1
      rw [e] at ha
      exact s_Search_compare_3_14 (l_cmp hC hG hd hs hc1 hc4 h htk hf hq d (p + 1) a (by omega) ha)
    · obtain ⟨f, hf1, hf2⟩ := (hf p (by omega)).resolve_left c1
      rw [hf2]
      refine s_Search_forceIndex_0 ?_
      unfold t_Search_forceIndex_0
      obtain ⟨z, rfl⟩ : ∃ z, c = z + 1 := ⟨c - 1, by omega⟩
      rw [idx_c ⟨f, by omega⟩ ⟨p, by omega⟩ ⟨z, by omega⟩]
      refine ⟨gix (f := 32 * z + 8 * p + f) (by omega) (by omega), ?_⟩
      rw [nI_clamp (by omega), h.1 37 (by decide), hd p f z (by omega) hf1 (by omega) (by omega)]
      have ek : (tk p).toNatClampNeg = f := by rw [hf2, nI_clamp (by omega)]
      refine ⟨fun c2 => ?_, fun c2 => ?_⟩
      · have e : swS (frA B n cd) tk (nI (z + 1)) p a = (a.1 + frA B n cd f (nI p) (nI (z + 1)), a.2 + frA B n cd f (nI p) (nI (z + 1))) := by unfold swS; rw [if_neg c1, ek, if_pos c2]
        rw [e] at ha
        exact s_Search_compare_3_14 (l_cmp hC hG hd hs hc1 hc4 h htk hf hq d (p + 1) (a.1 + frA B n cd f (nI p) (nI (z + 1)), a.2 + frA B n cd f (nI p) (nI (z + 1))) (by omega) ha)
      · have e : swS (frA B n cd) tk (nI (z + 1)) p a = (a.1 + frA B n cd f (nI p) (nI (z + 1)), a.2 + (0 - frA B n cd f (nI p) (nI (z + 1)))) := by unfold swS; rw [if_neg c1, ek, if_neg c2]
        rw [e] at ha
        exact s_Search_compare_3_14 (l_cmp hC hG hd hs hc1 hc4 h htk hf hq d (p + 1) (a.1 + frA B n cd f (nI p) (nI (z + 1)), a.2 + (0 - frA B n cd f (nI p) (nI (z + 1)))) (by omega) ha)
/-- none is taken: no way -/
theorem bet_none (hC : Core B F S n cd) {s : Nat} (hs : s < S) {tk : Nat → Int32} (z : Int32) (σ : SG) (h : ∀ j, j < 4 → tk j = -1) : cmpS (B 7 s) (B 8 s) (B 3 7) (frA B n cd) z tk σ = σ := by
  obtain ⟨-, -, ⟨l, l1, l2, el⟩, -⟩ := hC.st hs
  unfold cmpS
  refine if_neg (fun q => ?_)
  rw [sw4_none _ h] at q
  have := ((bet_iff _ _ _ _ _).mp q).1.1
  have e3 : (nI l / 3 + 1 : Int32) = nI (l / 3 + 1) := by
    have : nI l / 3 = nI (l / 3) := pk_div (d := 3) (by omega) (by omega) (by omega)
    rw [this, nI_1]
  rw [el, e3] at this
  exact nI_nle (n := l / 3 + 1) (by omega) (by omega) this
theorem qf_compare (hC : Core B F S n cd) (hG : rs B G) (hd : fdn B F n cd G 4 0 0) {s m m2 : Nat} (hs : s < S) {σ : SG} (h : sH s G I σ) {tk : Nat → Int32} (hf : fI F tk 4 m m2) (htk : ∀ j, j < 4 → I 38 j = tk j) (hq : ∀ J, sH s G J (cmA B n cd s (nI m) tk σ) → J 38 = I 38 → Q (.inl none) J T) : ev E 222 0 [some (.ref 36), some (.ref 3), some (.int (nI s)), some (.int (ones (nI m))), none, none, none, none] [] I T Q := by
  have h6 := hC.S6
  obtain ⟨a1, a2, a3, a4⟩ := hf
  have hc4 : tkc tk 4 ≤ 4 := fb_ct_le _ _
  refine s_Search_compare_3_0 ?_
  unfold t_Search_compare_3_0 t_Search_compare_3_7
  unfold cmA at hq
  rw [a3] at hq ⊢
  refine ⟨fun c => ?_, fun c => ?_⟩
  · have c0 : tkc tk 4 = 0 := (nI_eq (a := tkc tk 4) (b := 0) (by omega) (by omega)).mp c
    have hn : ∀ j, j < 4 → tk j = -1 := fun j hj => by
      have := fb_ct_zero.mp c0 j hj
      simpa using this
    rw [bet_none hC hs _ _ hn] at hq
    exact hq I h rfl
  · have c0 : tkc tk 4 ≠ 0 := fun z => c (by rw [z]; rfl)
    refine q_within _ _ _ ?_
    rw [show wI (nI s) 0 5 = 1 from wI_n (b := 5) (by omega) (by decide)]
    refine bq_f (by decide) ?_
    exact l_cmp hC hG hd hs (by omega) hc4 h htk a4 (fun J hJ e => hq J hJ e) 4 0 (0, 0) (by omega) rfl
/-- all ways from a place on, by the class -/
def flP (B G : II) (F S n : Nat) (cd : Nat → Nat × Int32) (s : Nat) (T : TT) (X : Nat × (Nat → Int32)) (k : Nat) : Prop := ∀ (e p m m2 : Nat) (tk : Nat → Int32) (σ : SG) (I : II) (Q : QQ), k ≤ e → p + k = 4 → fI F tk p m m2 → sH s G I σ → (∀ j, j < p → I 38 j = tk j) → (∀ J, sH s G J (fillS F (B 6) (cmA B n cd s) k p (nI m) (nI m2) tk σ) → (∀ j, j < p → J 38 j = tk j) → Q (.inl none) J T) → ev (e + 1, X) 221 0 [some (.ref 36), some (.ref 3), some (.int (nI s)), some (.int (nI p)), some (.int (nI m)), some (.int (nI m2)), none] [] I T Q
theorem fl_loop (hC : Core B F S n cd) (hG : rs B G) {s k : Nat} {X : Nat × (Nat → Int32)} (ih : flP B G F S n cd s T X k) {e p m m2 : Nat} (he : k + 1 ≤ e) (hp : p + (k + 1) = 4) {tk : Nat → Int32} (hf : fI F tk p m m2) : ∀ (d f : Nat) (σ : SG) (I : II), sH s G I σ → (∀ j, j < p → I 38 j = tk j) → f + d = F → (∀ J, sH s G J (fillS F (B 6) (cmA B n cd s) k (p + 1) (nI m) (nI m2) (upd tk p (-1)) (rep (fun f s9 => if (((nI m ||| nI m2) >>> (nI f &&& 31)) &&& 1) = 0 then fillS F (B 6) (cmA B n cd s) k (p + 1) (nI m ||| ((1 : Int32) <<< (nI f &&& 31))) (nI m2 ||| B 6 f) (upd tk p (nI f)) s9 else s9) d f σ)) → (∀ j, j < p → J 38 j = tk j) → Q (.inl none) J T) → t_Search_fillFrom_3_14 e X I T Q (nI s) (nI p) (nI m) (nI m2) (nI f)
  | 0, f, σ, I, h, hj, hfd, hq => by
    have h8 := hC.F8
    have hI : rs B I := hG.trans (h.1.rs (by decide))
    unfold t_Search_fillFrom_3_14
    rw [(hC.1.rs hI).1, nI_1 p, nI_clamp (show p < 2 ^ 31 by omega)]
    refine bq_t (nI_le (by omega) (by omega)) ⟨⟨nI_pos (by omega), by omega⟩, ?_⟩
    obtain ⟨e', rfl⟩ : ∃ e', e = e' + 1 := ⟨e - 1, by omega⟩
    refine ih e' (p + 1) m m2 (upd tk p (-1)) σ _ _ (by omega) (by omega) (fI_no hf) (sH_38 h p (-1)) (fun j hj2 => ?_) (fun J hJ hj3 => ?_)
    · rw [m_up_at]
      by_cases c : j = p
      · subst c; rw [if_pos rfl, upd_at]
      · rw [if_neg c, upd_ne c]; exact hj j (by omega)
    · exact hq J hJ (fun j hj2 => by rw [hj3 j (by omega), upd_ne (by omega)])
  | d + 1, f, σ, I, h, hj, hfd, hq => by
    have h8 := hC.F8
    have hI : rs B I := hG.trans (h.1.rs (by decide))
    unfold t_Search_fillFrom_3_14 t_Search_fillFrom_3_48
    rw [(hC.1.rs hI).1, nI_1 p, nI_1 f, nI_clamp (show p < 2 ^ 31 by omega)]
    refine bq_f (nI_ge (by omega) (by omega)) ?_
    rw [rep] at hq
    refine ⟨fun c => ⟨⟨nI_pos (by omega), by omega⟩, ?_⟩, fun c => ?_⟩
    · rw [if_pos c] at hq
      have h2 := sH_38 h p (nI f)
      refine p_foesOf (hC.1.rs (hG.trans (h2.1.rs (by decide)))) (by omega) ?_
      obtain ⟨-, -, -, -, -, k6, hk6, e6⟩ := hC.fe (show f < F by omega)
      rw [if_pos (by omega), (hG.trans (h2.1.rs (by decide))).cell (c := 6) (by decide), e6]
      rw [e6] at hq
      have es : nI m ||| ((1 : Int32) <<< (nI f &&& 31)) = nI (m ||| 2 ^ f) := by rw [shl_one ⟨f, by omega⟩, fa_or]
      rw [es] at hq ⊢
      rw [fa_or m2 k6] at hq
      show ev (e, X) 221 0 [some (.ref 36), some (.ref 3), some (.int (nI s)), some (.int (nI (p + 1))), some (.int (nI (m ||| 2 ^ f))), some (.int (nI m2 ||| nI k6)), none] [] _ T _
      rw [fa_or m2 k6]
      obtain ⟨e', rfl⟩ : ∃ e', e = e' + 1 := ⟨e - 1, by omega⟩
      refine ih e' (p + 1) (m ||| 2 ^ f) (m2 ||| k6) (upd tk p (nI f)) σ _ _ (by omega) (by omega) (fI_in h8 hf (by omega) hk6 c) h2 (fun j hj2 => ?_) (fun J hJ hj3 => ?_)
      · rw [m_up_at]
        by_cases c : j = p
        · subst c; rw [if_pos rfl, upd_at]
        · rw [if_neg c, upd_ne c]; exact hj j (by omega)
      · exact s_Search_fillFrom_3_14 (fl_loop hC hG ih he hp hf d (f + 1) _ J hJ (fun j hj2 => by rw [hj3 j (by omega), upd_ne (by omega)]) (by omega) hq)
    · rw [if_neg c] at hq
      exact s_Search_fillFrom_3_14 (fl_loop hC hG ih he hp hf d (f + 1) σ I h hj (by omega) hq)
theorem fl_all (hC : Core B F S n cd) (hG : rs B G) (hd : fdn B F n cd G 4 0 0) {s : Nat} (hs : s < S) {X : Nat × (Nat → Int32)} : ∀ k, flP B G F S n cd s T X k
  | 0 => by
    intro e p m m2 tk σ I Q he hp hf h hj hq
    refine s_Search_fillFrom_3_0 ?_
    unfold t_Search_fillFrom_3_0 t_Search_fillFrom_3_5
    have e4 : p = 4 := by omega
    subst e4
    refine bq_f (by decide) (bq_f (by decide) ?_)
    refine p_bitCount _ ?_
    rw [bc_ones ⟨m, hf.1⟩]
    refine qf_compare hC hG hd hs h hf hj (fun J hJ e => ?_)
    exact hq J hJ (fun j hj2 => by rw [e]; exact hj j hj2)
  | k + 1 => by
    intro e p m m2 tk σ I Q he hp hf h hj hq
    refine s_Search_fillFrom_3_0 ?_
    unfold t_Search_fillFrom_3_0
    refine bq_f (nI_pos (by omega)) (bq_t (nI_lt (a := p) (b := 4) (by omega) (by omega)) ?_)
    exact fl_loop hC hG (fl_all hC hG hd hs k) he hp hf F 0 σ I h hj (by omega) hq
end SRC
